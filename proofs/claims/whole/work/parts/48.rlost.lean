section ZLO
variable {X : zCx} {h : zHp} {m : Nat} {S : zS} {cc : Nat}
def sLost (S : zS) (b : Nat) : Prop := sN S 18 b = 0 ∧ ¬ sFnd S b
def sAlone (S : zS) (b : Nat) : Prop := ∀ o, o < sN S 23 0 → o ≠ b → sLost S o → ¬ sLd S (sN S 15 o) (sN S 16 o) b
theorem sRn_T (S : zS) (w : Int32) (k : Nat) : ∀ b, sRn (sThrow S w) k b = sRn S k b := by
  induction k with
  | zero => intro b; rfl
  | succ k ih =>
    intro b
    show (sRn (sThrow S w) k b ∨ (b < sN S 23 0 ∧ sN S 18 b = 0 ∧ ∃ o, o < sN S 23 0 ∧ sRn (sThrow S w) k o ∧ sLd S (sN S 15 o) (sN S 16 o) b)) = _
    simp only [ih]
    rfl
theorem sFnd_T (S : zS) (w : Int32) : sFnd (sThrow S w) = sFnd S := by
  funext b
  unfold sFnd
  simp only [sRn_T]
theorem sLost_T (S : zS) (w : Int32) : sLost (sThrow S w) = sLost S := by
  funext b
  unfold sLost
  rw [sFnd_T]
  rfl
theorem sAlone_T (S : zS) (w : Int32) : sAlone (sThrow S w) = sAlone S := by
  funext b
  unfold sAlone
  rw [sLost_T]
  rfl
theorem rc_isLost (G : zG X) (I : sInv S cc) (b : Nat) (hb : b < sN S 23 0) : ZM X MX11_isLost 0 100 [.ref m, .int (nI b)] (zr X h m (sWk S)) (zX (zr X h m (sWk S)) (some (.int (zif (sLost S b) 1 0)))) := by
  obtain ⟨I0, In, Ig, If, Ib, Iq, Ih, Im, c1, c2, c3, c4⟩ := id I
  have l18 := sN_lt I0 (k := 18) (i := b) rfl
  refine zm_of_z G KX11_isLost rfl rfl ?_
  refine z_go 90 rfl ?_
  refine z_get zr_o rfl rfl rfl rfl ?_
  refine z_go 90 rfl ?_
  refine r_lv18 b (show S 18 b = nI (sN S 18 b) from sN_eq I0 rfl) (i_nI (by omega)) (by omega) rfl ?_
  refine z_go 90 rfl ?_
  refine z_br rfl rfl (fun c => ?_) (fun c => ?_) <;> (try dsimp only at c)
  · rw [show (0 : Int32) = nI 0 from rfl, n_eq (by omega) (by omega)] at c
    refine z_go 90 rfl ?_
    exact z_zret rfl rfl rfl ⟨rfl, by rw [zif_neg (p := sLost S b) (fun z => c z.1)]⟩
  rw [show (0 : Int32) = nI 0 from rfl, n_eq (by omega) (by omega)] at c
  refine z_go 90 rfl ?_
  refine z_get zr_o rfl rfl rfl rfl ?_
  refine z_go 90 rfl ?_
  refine z_ite (p := sFnd S b) (fun q => ?_) (fun q => ?_)
  · refine r_lv28 b (show sFa S (sFnd S) b = 1 by unfold sFa; rw [if_pos hb, zif_pos q]) (i_nI (by omega)) (by omega) rfl ?_
    refine z_go 90 rfl ?_
    refine z_br rfl rfl (fun _ => ?_) (fun c => absurd c (by first | decide | (dsimp only; decide)))
    refine z_go 90 rfl ?_
    exact z_zret rfl rfl rfl ⟨rfl, by rw [zif_neg (p := sLost S b) (fun z => z.2 q)]⟩
  · refine r_lv28 b (show sFa S (sFnd S) b = 0 by unfold sFa; rw [if_pos hb, zif_neg q]) (i_nI (by omega)) (by omega) rfl ?_
    refine z_go 90 rfl ?_
    refine z_br rfl rfl (fun c => absurd c (by first | decide | (dsimp only; decide))) (fun _ => ?_)
    refine z_go 90 rfl ?_
    exact z_zret rfl rfl rfl ⟨rfl, by rw [zif_pos (p := sLost S b) ⟨c, q⟩]⟩
theorem rc_isAlone (G : zG X) (I : sInv S cc) (b : Nat) (hb : b < sN S 23 0) : ZM X MX11_isAlone 2 154 [.ref m, .int (nI b)] (zr X h m (sWk S)) (zX (zr X h m (sWk S)) (some (.int (zif (sAlone S b) 1 0)))) := by
  obtain ⟨I0, In, Ig, If, Ib, Iq, Ih, Im, c1, c2, c3, c4⟩ := id I
  obtain ⟨r1, r2, r3⟩ := sReg I
  have e23 : S 23 0 = nI (sN S 23 0) := sN_eq I0 (k := 23) (i := 0) rfl
  refine zm_of_z G KX11_isAlone rfl rfl ?_
  refine z_go 90 rfl ?_
  refine r_v23 (show S 23 0 = _ from e23) rfl rfl rfl ?_
  refine z_go 90 rfl ?_
  have H := zdown (P := fun k => (∀ o, o < k → o ≠ b → sLost S o → ¬ sLd S (sN S 15 o) (sN S 16 o) b) → Z X MX11_isAlone (2, 154, h.2.1, h.2.2) (zr X h m (sWk S)) 7 [some (.ref m), some (.int (nI b)), some (.int (nI k))] [.int (nI (sN S 23 0)), .int (nI k)] (zX (zr X h m (sWk S)) (some (.int (zif (sAlone S b) 1 0))))) (sN S 23 0) (fun k hk ih hp => ?_) 0 (Nat.zero_le _) (fun j hj => by omega)
  · exact H
  refine z_br rfl rfl (fun c => ?_) (fun c => ?_) <;> (try dsimp only at c)
  · rw [n_le (by omega) (by omega)] at c
    refine z_go 90 rfl ?_
    exact z_zret rfl rfl rfl ⟨rfl, by rw [zif_pos (p := sAlone S b) (fun o ho => hp o (by omega))]⟩
  rw [n_le (by omega) (by omega)] at c
  have go : ¬ (k ≠ b ∧ sLost S k ∧ sLd S (sN S 15 k) (sN S 16 k) b) → Z X MX11_isAlone (2, 154, h.2.1, h.2.2) (zr X h m (sWk S)) 45 [some (.ref m), some (.int (nI b)), some (.int (nI k))] [] (zX (zr X h m (sWk S)) (some (.int (zif (sAlone S b) 1 0)))) := by
    intro hn
    refine z_go 90 rfl ?_
    rw [show nI k + (1 : Int32) = nI (k + 1) from n_succ k]
    refine r_v23 (show S 23 0 = _ from e23) rfl rfl rfl ?_
    refine z_go 90 rfl ?_
    refine ih (by omega) (fun o ho => ?_)
    by_cases e : o = k
    · subst e; exact fun z1 z2 z3 => hn ⟨z1, z2, z3⟩
    · exact hp o (by omega)
  refine z_go 90 rfl ?_
  refine z_br rfl rfl (fun d => ?_) (fun d => ?_) <;> (try dsimp only at d)
  · rw [n_eq (by omega) (by omega)] at d
    exact go (fun z => z.1 d)
  rw [n_eq (by omega) (by omega)] at d
  refine z_go 90 rfl ?_
  refine z_cV zr_o (rc_isLost G I k (by omega)) KX11_isLost IX11_isLost VX11_isLost rfl rfl rfl PX11_isLost rfl rfl rfl rfl ?_
  refine z_go 90 rfl ?_
  refine z_ite (p := sLost S k) (fun q => ?_) (fun q => ?_)
  · rw [zif_pos q]
    refine z_br rfl rfl (fun c => absurd c (by first | decide | (dsimp only; decide))) (fun _ => ?_)
    refine z_go 90 rfl ?_
    refine z_get zr_o rfl rfl rfl rfl ?_
    refine z_go 90 rfl ?_
    refine r_lv15 k (show S 15 k = nI (sN S 15 k) from sN_eq I0 rfl) (i_nI (by omega)) (by omega) rfl ?_
    refine z_go 90 rfl ?_
    refine z_get zr_o rfl rfl rfl rfl ?_
    refine z_go 90 rfl ?_
    refine r_lv16 k (show S 16 k = nI (sN S 16 k) from sN_eq I0 rfl) (i_nI (by omega)) (by omega) rfl ?_
    refine z_go 90 rfl ?_
    refine z_cV zr_o (rc_leads (S := sWk S) G (sI0_28 I0 (sFnd S)) (sN S 15 k) (sN S 16 k) b (r3 k (by omega)) (by omega)) KX11_leads IX11_leads VX11_leads rfl rfl rfl PX11_leads rfl rfl rfl rfl ?_
    refine z_go 90 rfl ?_
    refine z_ite (p := sLd S (sN S 15 k) (sN S 16 k) b) (fun u => ?_) (fun u => ?_)
    · rw [zif_pos (p := sLd (sWk S) (sN S 15 k) (sN S 16 k) b) u]
      refine z_br rfl rfl (fun c => absurd c (by first | decide | (dsimp only; decide))) (fun _ => ?_)
      refine z_go 90 rfl ?_
      exact z_zret rfl rfl rfl ⟨rfl, by rw [zif_neg (p := sAlone S b) (fun z => z k (by omega) d q u)]⟩
    · rw [zif_neg (p := sLd (sWk S) (sN S 15 k) (sN S 16 k) b) u]
      refine z_br rfl rfl (fun _ => ?_) (fun c => absurd c (by decide))
      exact go (fun z => u z.2.2)
  · rw [zif_neg q]
    refine z_br rfl rfl (fun _ => ?_) (fun c => absurd c (by decide))
    exact go (fun z => q z.2.1)
/-- lost -/
noncomputable def sLostF (S : zS) (p w : Int32) : Option Nat := (zFst (fun i => sLost S (p.toInt.toNat + i) ∧ (w = 0 ∨ sAlone S (p.toInt.toNat + i))) (sN S 23 0 - p.toInt.toNat)).map (fun i => p.toInt.toNat + i)
noncomputable def sLostC (S : zS) (p w : Int32) : Int32 × zS := (zoI (sLostF S p w), sWk (sThrow S 0))
theorem rc_lost (G : zG X) (I : sInv S cc) (p w : Int32) : ZM X MX11_lost 4 210 [.ref m, .int p, .int w] (zr X h m S) (zX (zr X h m (sLostC S p w).2) (some (.int (sLostC S p w).1))) := by
  obtain ⟨I0, In, Ig, If, Ib, Iq, Ih, Im, c1, c2, c3, c4⟩ := id I
  have J := sInv_T I 0 (by decide)
  have e23 : S 23 0 = nI (sN S 23 0) := sN_eq I0 (k := 23) (i := 0) rfl
  have t0 : (0 : Int32).toInt = 0 := rfl
  have t23 := i_nI (n := sN S 23 0) (by omega)
  have main : ∀ x : Int32, x.toInt = (p.toInt.toNat : Int) → Z X MX11_lost (4, 210, h.2.1, h.2.2) (zr X h m (sWk (sThrow S 0))) 24 [some (.ref m), some (.int p), some (.int w), some (.int x)] [.int (nI (sN S 23 0)), .int x] (zX (zr X h m (sLostC S p w).2) (some (.int (sLostC S p w).1))) := by
    intro x hx
    obtain ⟨a, rfl, ha⟩ := i_nat (x := x) (by omega)
    rw [i_nI ha] at hx
    have hpa : p.toInt.toNat = a := by omega
    have hR : sLostC S p w = (zoI ((zFst (fun i => sLost S (a + i) ∧ (w = 0 ∨ sAlone S (a + i))) (sN S 23 0 - a)).map (fun i => a + i)), sWk (sThrow S 0)) := by
      unfold sLostC sLostF
      rw [hpa]
    rw [hR]
    refine z_ite (p := sN S 23 0 ≤ a) (fun big => ?_) (fun big => ?_)
    · refine z_br rfl rfl (fun c => ?_) (fun c => ?_) <;> (try dsimp only at c)
      · refine z_go 90 rfl ?_
        have : zFst (fun i => sLost S (a + i) ∧ (w = 0 ∨ sAlone S (a + i))) (sN S 23 0 - a) = none := zFst_none.mpr (fun j hj => by omega)
        rw [this]
        exact z_iret rfl rfl ⟨rfl, rfl⟩
      · rw [n_le (by omega) (by omega)] at c
        omega
    have H := zdown (P := fun k => (∀ j, j < k → ¬ (sLost S (a + j) ∧ (w = 0 ∨ sAlone S (a + j)))) → Z X MX11_lost (4, 210, h.2.1, h.2.2) (zr X h m (sWk (sThrow S 0))) 24 [some (.ref m), some (.int p), some (.int w), some (.int (nI (a + k)))] [.int (nI (sN S 23 0)), .int (nI (a + k))] (zX (zr X h m (sWk (sThrow S 0))) (some (.int (zoI ((zFst (fun i => sLost S (a + i) ∧ (w = 0 ∨ sAlone S (a + i))) (sN S 23 0 - a)).map (fun i => a + i))))))) (sN S 23 0 - a) (fun k hk ih hp => ?_) 0 (Nat.zero_le _) (fun j hj => by omega)
    · exact H
    refine z_br rfl rfl (fun c => ?_) (fun c => ?_) <;> (try dsimp only at c)
    · rw [n_le (by omega) (by omega)] at c
      refine z_go 90 rfl ?_
      have : zFst (fun i => sLost S (a + i) ∧ (w = 0 ∨ sAlone S (a + i))) (sN S 23 0 - a) = none := zFst_none.mpr (fun j hj => hp j (by omega))
      rw [this]
      exact z_iret rfl rfl ⟨rfl, rfl⟩
    rw [n_le (by omega) (by omega)] at c
    have go : ¬ (sLost S (a + k) ∧ (w = 0 ∨ sAlone S (a + k))) → Z X MX11_lost (4, 210, h.2.1, h.2.2) (zr X h m (sWk (sThrow S 0))) 49 [some (.ref m), some (.int p), some (.int w), some (.int (nI (a + k)))] [] (zX (zr X h m (sWk (sThrow S 0))) (some (.int (zoI ((zFst (fun i => sLost S (a + i) ∧ (w = 0 ∨ sAlone S (a + i))) (sN S 23 0 - a)).map (fun i => a + i)))))) := by
      intro hn
      refine z_go 90 rfl ?_
      rw [show nI (a + k) + (1 : Int32) = nI (a + (k + 1)) from n_succ _]
      refine r_v23 (show S 23 0 = _ from e23) rfl rfl rfl ?_
      refine z_go 90 rfl ?_
      refine ih (by omega) (fun j hj => ?_)
      by_cases e : j = k
      · subst e; exact hn
      · exact hp j (by omega)
    have yes : (sLost S (a + k) ∧ (w = 0 ∨ sAlone S (a + k))) → Z X MX11_lost (4, 210, h.2.1, h.2.2) (zr X h m (sWk (sThrow S 0))) 48 [some (.ref m), some (.int p), some (.int w), some (.int (nI (a + k)))] [.int (nI (a + k))] (zX (zr X h m (sWk (sThrow S 0))) (some (.int (zoI ((zFst (fun i => sLost S (a + i) ∧ (w = 0 ∨ sAlone S (a + i))) (sN S 23 0 - a)).map (fun i => a + i)))))) := by
      intro hy
      have : zFst (fun i => sLost S (a + i) ∧ (w = 0 ∨ sAlone S (a + i))) (sN S 23 0 - a) = some k := zFst_some.mpr ⟨by omega, hy, hp⟩
      rw [this]
      exact z_iret rfl rfl ⟨rfl, rfl⟩
    refine z_go 90 rfl ?_
    refine z_cV zr_o (rc_isLost G J (a + k) (by show a + k < sN S 23 0; omega)) KX11_isLost IX11_isLost VX11_isLost rfl rfl rfl PX11_isLost rfl rfl rfl rfl ?_
    refine z_go 90 rfl ?_
    refine z_ite (p := sLost S (a + k)) (fun q => ?_) (fun q => ?_)
    · rw [sLost_T, zif_pos q]
      refine z_br rfl rfl (fun c => absurd c (by first | decide | (dsimp only; decide))) (fun _ => ?_)
      refine z_go 90 rfl ?_
      refine z_br rfl rfl (fun d => ?_) (fun d => ?_) <;> (try dsimp only at d)
      · refine z_go 90 rfl ?_
        exact yes ⟨q, Or.inl d⟩
      refine z_go 90 rfl ?_
      refine z_cV zr_o (rc_isAlone G J (a + k) (by show a + k < sN S 23 0; omega)) KX11_isAlone IX11_isAlone VX11_isAlone rfl rfl rfl PX11_isAlone rfl rfl rfl rfl ?_
      refine z_go 90 rfl ?_
      refine z_ite (p := sAlone S (a + k)) (fun u => ?_) (fun u => ?_)
      · rw [sAlone_T, zif_pos u]
        refine z_br rfl rfl (fun c => absurd c (by first | decide | (dsimp only; decide))) (fun _ => ?_)
        refine z_go 90 rfl ?_
        exact yes ⟨q, Or.inr u⟩
      · rw [sAlone_T, zif_neg u]
        refine z_br rfl rfl (fun _ => ?_) (fun c => absurd c (by decide))
        exact go (fun z => z.2.elim d u)
    · rw [sLost_T, zif_neg q]
      refine z_br rfl rfl (fun _ => ?_) (fun c => absurd c (by decide))
      exact go (fun z => q z.1)
  refine zm_of_z G KX11_lost rfl rfl ?_
  refine z_go 90 rfl ?_
  refine r_p0 rfl rfl rfl ?_
  refine z_go 90 rfl ?_
  refine z_cV zr_o (rc_walk G J) KX11_walk IX11_walk VX11_walk rfl rfl rfl PX11_walk rfl rfl rfl rfl ?_
  refine z_go 90 rfl ?_
  refine z_br rfl rfl (fun c => ?_) (fun c => ?_) <;> (try dsimp only at c)
  · rw [i_le] at c
    refine z_go 90 rfl ?_
    refine r_v23 (show S 23 0 = _ from e23) rfl rfl rfl ?_
    refine z_go 90 rfl ?_
    exact main p (by omega)
  · rw [i_le] at c
    refine z_go 90 rfl ?_
    refine r_v23 (show S 23 0 = _ from e23) rfl rfl rfl ?_
    refine z_go 90 rfl ?_
    exact main 0 (by omega)
noncomputable def sGood (S : zS) : Nat := zSum (fun a => zif (sWr S a = 0) 1 0) (sN S 1 0)
theorem zSum01 {P : Nat → Prop} (n : Nat) : zSum (fun a => zif (P a) 1 0) n ≤ n := by
  have := zSum_le (g := fun a => zif (P a) 1 0) (b := 1) (fun i => by
    show zif (P i) 1 0 ≤ 1
    by_cases c : P i
    · rw [zif_pos c]; omega
    · rw [zif_neg c]; omega) n
  omega
theorem rc_good (G : zG X) (I : sInv S cc) : ZM X MX11_good 1 127 [.ref m] (zr X h m S) (zX (zr X h m S) (some (.int (nI (sGood S))))) := by
  obtain ⟨I0, In, Ig, If, Ib, Iq, Ih, Im, c1, c2, c3, c4⟩ := id I
  have N2 := In.2.1
  refine zm_of_z G KX11_good rfl rfl ?_
  refine z_go 90 rfl ?_
  refine r_v1 (sN_eq I0 rfl) rfl rfl rfl ?_
  refine z_go 90 rfl ?_
  have H := zdown (P := fun k => Z X MX11_good (1, 127, h.2.1, h.2.2) (zr X h m S) 9 [some (.ref m), some (.int (nI (zSum (fun a => zif (sWr S a = 0) 1 0) k))), some (.int (nI k))] [.int (nI (sN S 1 0)), .int (nI k)] (zX (zr X h m S) (some (.int (nI (sGood S)))))) (sN S 1 0) (fun k hk ih => ?_) 0 (Nat.zero_le _)
  · exact H
  refine z_br rfl rfl (fun c => ?_) (fun c => ?_) <;> (try dsimp only at c)
  · rw [n_le (by omega) (by omega)] at c
    have : k = sN S 1 0 := by omega
    subst this
    refine z_go 90 rfl ?_
    exact z_iret rfl rfl ⟨rfl, rfl⟩
  rw [n_le (by omega) (by omega)] at c
  refine z_go 90 rfl ?_
  refine z_cV zr_o (rc_wrong G I _ (k : Int) (l_nI (by omega))) KX11_wrong IX11_wrong VX11_wrong rfl rfl rfl PX11_wrong rfl rfl rfl rfl ?_
  refine z_go 90 rfl ?_
  have hw := sWr_b S (k : Int)
  have hz : zSum (fun a => zif (sWr S a = 0) 1 0) (k + 1) = zSum (fun a => zif (sWr S a = 0) 1 0) k + zif (sWr S k = 0) 1 0 := rfl
  have ih := ih (by omega)
  rw [hz] at ih
  refine z_br rfl rfl (fun d => ?_) (fun d => ?_) <;> (try dsimp only at d)
  · rw [show (0 : Int32) = nI 0 from rfl, n_eq (by omega) (by omega)] at d
    rw [zif_neg d] at ih
    refine z_go 90 rfl ?_
    rw [show nI (zSum (fun a => zif (sWr S a = 0) 1 0) k) + (0 : Int32) = nI (zSum (fun a => zif (sWr S a = 0) 1 0) k + 0) from n_add _ 0, show nI k + (1 : Int32) = nI (k + 1) from n_succ k]
    refine r_v1 (sN_eq I0 rfl) rfl rfl rfl ?_
    refine z_go 90 rfl ?_
    exact ih
  · rw [show (0 : Int32) = nI 0 from rfl, n_eq (by omega) (by omega)] at d
    rw [zif_pos d] at ih
    refine z_go 90 rfl ?_
    rw [show nI (zSum (fun a => zif (sWr S a = 0) 1 0) k) + (1 : Int32) = nI (zSum (fun a => zif (sWr S a = 0) 1 0) k + 1) from n_add _ 1, show nI k + (1 : Int32) = nI (k + 1) from n_succ k]
    refine r_v1 (sN_eq I0 rfl) rfl rfl rfl ?_
    refine z_go 90 rfl ?_
    exact ih
end ZLO
