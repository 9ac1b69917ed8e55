/-- the roots lead to b -/
def sRt (S : zS) (b : Nat) : Prop := (∃ k, k < sN S 7 0 ∧ sLd S (sN S 5 k) (sN S 6 k) b) ∨ ∃ v, v < 4 * sN S 14 0 ∧ v % 4 < sN S 10 (v / 4) ∧ sN S 13 v = 0 ∧ sLd S (sN S 11 v) (sN S 12 v) b
def sR0 (S : zS) (b : Nat) : Prop := b < sN S 23 0 ∧ sN S 18 b = 0 ∧ sRt S b
def sRn (S : zS) : Nat → Nat → Prop
  | 0, b => sR0 S b
  | k + 1, b => sRn S k b ∨ (b < sN S 23 0 ∧ sN S 18 b = 0 ∧ ∃ o, o < sN S 23 0 ∧ sRn S k o ∧ sLd S (sN S 15 o) (sN S 16 o) b)
def sFnd (S : zS) (b : Nat) : Prop := ∃ k, sRn S k b
theorem sFnd_0 {S : zS} {b : Nat} (h : sR0 S b) : sFnd S b := ⟨0, h⟩
theorem sFnd_s {S : zS} {b o : Nat} (h1 : b < sN S 23 0) (h2 : sN S 18 b = 0) (h3 : o < sN S 23 0) (h4 : sFnd S o) (h5 : sLd S (sN S 15 o) (sN S 16 o) b) : sFnd S b := by
  obtain ⟨k, hk⟩ := h4
  exact ⟨k + 1, Or.inr ⟨h1, h2, o, h3, hk, h5⟩⟩
theorem sFnd_c {S : zS} {F : Nat → Prop} (h0 : ∀ b, sR0 S b → F b) (hc : ∀ b, b < sN S 23 0 → sN S 18 b = 0 → ¬ F b → ∀ o, o < sN S 23 0 → F o → ¬ sLd S (sN S 15 o) (sN S 16 o) b) {b : Nat} (h : sFnd S b) : F b := by
  obtain ⟨k, hk⟩ := h
  induction k generalizing b with
  | zero => exact h0 b hk
  | succ k ih =>
    rcases hk with hk | ⟨h1, h2, o, h3, h4, h5⟩
    · exact ih hk
    · exact Classical.byContradiction fun hb => hc b h1 h2 hb o h3 (ih h4) h5
theorem sFnd_l {S : zS} {b : Nat} (h : sFnd S b) : b < sN S 23 0 ∧ sN S 18 b = 0 := by
  obtain ⟨k, hk⟩ := h
  induction k with
  | zero => exact ⟨hk.1, hk.2.1⟩
  | succ k ih =>
    rcases hk with hk | ⟨h1, h2, -⟩
    · exact ih hk
    · exact ⟨h1, h2⟩
noncomputable def sFa (S : zS) (F : Nat → Prop) : Nat → Int32 := fun b => if b < sN S 23 0 then zif (F b) 1 0 else S 28 b
noncomputable def sWk (S : zS) : zS := zV S 28 (sFa S (sFnd S))
noncomputable def sCnt (F : Nat → Prop) (n : Nat) : Nat := zSum (fun b => zif (F b) 0 1) n
theorem sCnt_le {F F' : Nat → Prop} (h : ∀ b, F b → F' b) (n : Nat) : sCnt F' n ≤ sCnt F n := by
  induction n with
  | zero => exact Nat.le_refl _
  | succ n ih =>
    show sCnt F' n + zif (F' n) 0 1 ≤ sCnt F n + zif (F n) 0 1
    by_cases c : F n
    · rw [zif_pos c, zif_pos (h n c)]; omega
    · rw [zif_neg c]
      by_cases d : F' n
      · rw [zif_pos d]; omega
      · rw [zif_neg d]; omega
theorem sCnt_lt {F F' : Nat → Prop} (h : ∀ b, F b → F' b) {n k : Nat} (hk : k < n) (h1 : F' k) (h2 : ¬ F k) : sCnt F' n < sCnt F n := by
  induction n with
  | zero => omega
  | succ n ih =>
    show sCnt F' n + zif (F' n) 0 1 < sCnt F n + zif (F n) 0 1
    by_cases e : k = n
    · subst e
      rw [zif_pos h1, zif_neg h2]
      have := sCnt_le h k
      omega
    · have := ih (by omega)
      by_cases c : F n
      · rw [zif_pos c, zif_pos (h n c)]; omega
      · rw [zif_neg c]
        by_cases d : F' n
        · rw [zif_pos d]; omega
        · rw [zif_neg d]; omega
theorem sI0_28 {S : zS} (I : sI0 S) (F : Nat → Prop) : sI0 (zV S 28 (sFa S F)) := by
  refine sI0_V I fun _ i => ?_
  unfold sFa
  split
  · by_cases c : F i
    · rw [zif_pos c]; decide
    · rw [zif_neg c]; decide
  · exact I 28 i rfl
theorem sInv_28 {S : zS} {c : Nat} (I : sInv S c) (F : Nat → Prop) : sInv (zV S 28 (sFa S F)) c := ⟨sI0_28 I.1 F, I.2⟩
theorem sFa_1 (S : zS) (F : Nat → Prop) {k : Nat} (hk : k < sN S 23 0) : upd (sFa S F) k 1 = sFa S (fun b => F b ∨ b = k) := by
  funext b
  unfold upd sFa
  by_cases e : b = k
  · subst e
    rw [if_pos rfl, if_pos hk, zif_pos (Or.inr rfl)]
  · rw [if_neg e]
    by_cases c : b < sN S 23 0
    · rw [if_pos c, if_pos c]
      by_cases d : F b
      · rw [zif_pos d, zif_pos (Or.inl d)]
      · rw [zif_neg d, zif_neg (fun z => z.elim d e)]
    · rw [if_neg c, if_neg c]
theorem sFa_0 (S : zS) (F : Nat → Prop) {k : Nat} (hk : k < sN S 23 0) (hn : ¬ F k) : upd (sFa S F) k 0 = sFa S F := by
  funext b
  unfold upd
  by_cases e : b = k
  · subst e
    rw [if_pos rfl]
    unfold sFa
    rw [if_pos hk, zif_neg hn]
  · rw [if_neg e]
section ZWK
variable {X : zCx} {h : zHp} {m : Nat} {S : zS} {cc : Nat}
theorem sReg (I : sInv S cc) : (∀ k, k < sN S 7 0 → sN S 5 k + sN S 6 k ≤ 8192) ∧ (∀ v, v < 4 * sN S 14 0 → v % 4 < sN S 10 (v / 4) → sN S 11 v + sN S 12 v ≤ 8192) ∧ (∀ b, b < sN S 23 0 → sN S 15 b + sN S 16 b ≤ 8192) := by
  obtain ⟨I0, In, Ig, If, Ib, Iq, Ih, Im, c1, c2, c3, c4⟩ := I
  have N2 := In.2.1
  refine ⟨fun k hk => ?_, fun v hv hj => ?_, fun b hb => ?_⟩
  · have := (Ig.2 k hk).2.2.2.1; omega
  · obtain ⟨g1, g2, g3, g4, g5, g6, g7, g8, g9⟩ := If.2 (v / 4) (by omega)
    obtain ⟨v1, v2, v3, v4, v5, v6⟩ := g9 (v % 4) hj
    rw [show 4 * (v / 4) + v % 4 = v by omega] at v5 v4 v3
    have hp : sN S 12 v + 32 ≤ sPad (sN S 12 v) := by unfold sPad; omega
    have : sN S 9 (v / 4) ≤ 8192 := by
      rw [g4]
      split
      · omega
      · have := (If.2 (v / 4 - 1) (by omega)).2.1; omega
    omega
  · obtain ⟨g1, g2, g3, g4, g5, g6, g7, g8⟩ := Ib.1 b hb
    have := sCh_b (sN S 16 b)
    omega
theorem rc_rooted (G : zG X) (I : sInv S cc) (b : Nat) (hb : b < 520) : ZM X MX11_isRooted 2 154 [.ref m, .int (nI b)] (zr X h m S) (zX (zr X h m S) (some (.int (zif (sRt S b) 1 0)))) := by
  obtain ⟨I0, In, Ig, If, Ib, Iq, Ih, Im, c1, c2, c3, c4⟩ := id I
  obtain ⟨r1, r2, r3⟩ := sReg I
  have g1 := Ig.1
  have f1 := If.1
  have e7 : S 7 0 = nI (sN S 7 0) := sN_eq I0 rfl
  have e14 : S 14 0 = nI (sN S 14 0) := sN_eq I0 rfl
  have yes : sRt S b → ∀ k, Z X MX11_isRooted (2, 154, h.2.1, h.2.2) (zr X h m S) 31 [some (.ref m), some (.int (nI b)), k] [.int 1] (zX (zr X h m S) (some (.int (zif (sRt S b) 1 0)))) := by
    intro hy k
    exact z_zret rfl rfl rfl ⟨rfl, by rw [zif_pos hy]⟩
  have yes2 : sRt S b → ∀ k, Z X MX11_isRooted (2, 154, h.2.1, h.2.2) (zr X h m S) 94 [some (.ref m), some (.int (nI b)), k] [.int 1] (zX (zr X h m S) (some (.int (zif (sRt S b) 1 0)))) := by
    intro hy k
    exact z_zret rfl rfl rfl ⟨rfl, by rw [zif_pos hy]⟩
  have H2 : (∀ k, k < sN S 7 0 → ¬ sLd S (sN S 5 k) (sN S 6 k) b) → Z X MX11_isRooted (2, 154, h.2.1, h.2.2) (zr X h m S) 47 [some (.ref m), some (.int (nI b)), some (.int (nI 0))] [.int (nI (4 * sN S 14 0)), .int (nI 0)] (zX (zr X h m S) (some (.int (zif (sRt S b) 1 0)))) := by
    intro hg
    have H := zdown (P := fun k => (∀ v, v < k → ¬ (v % 4 < sN S 10 (v / 4) ∧ sN S 13 v = 0 ∧ sLd S (sN S 11 v) (sN S 12 v) b)) → Z X MX11_isRooted (2, 154, h.2.1, h.2.2) (zr X h m S) 47 [some (.ref m), some (.int (nI b)), some (.int (nI k))] [.int (nI (4 * sN S 14 0)), .int (nI k)] (zX (zr X h m S) (some (.int (zif (sRt S b) 1 0))))) (4 * sN S 14 0) (fun k hk ih hp => ?_) 0 (Nat.zero_le _) (fun j hj => by omega)
    · exact H
    refine z_br rfl rfl (fun c => ?_) (fun c => ?_) <;> (try dsimp only at c)
    · rw [n_le (by omega) (by omega)] at c
      refine z_go 90 rfl ?_
      exact z_zret rfl rfl rfl ⟨rfl, by
        rw [zif_neg]
        rintro (⟨k', z1, z2⟩ | ⟨v, z1, z2⟩)
        · exact hg k' z1 z2
        · exact hp v (by omega) z2⟩
    rw [n_le (by omega) (by omega)] at c
    have go : ¬ (k % 4 < sN S 10 (k / 4) ∧ sN S 13 k = 0 ∧ sLd S (sN S 11 k) (sN S 12 k) b) → Z X MX11_isRooted (2, 154, h.2.1, h.2.2) (zr X h m S) 95 [some (.ref m), some (.int (nI b)), some (.int (nI k))] [] (zX (zr X h m S) (some (.int (zif (sRt S b) 1 0)))) := by
      intro hn
      refine z_go 90 rfl ?_
      rw [show nI k + (1 : Int32) = nI (k + 1) from n_succ k]
      refine r_v14 e14 rfl rfl rfl ?_
      refine z_go 90 rfl ?_
      rw [show (4 : Int32) * nI (sN S 14 0) = nI (4 * sN S 14 0) from n_mul 4 _]
      refine ih (by omega) (fun v hv => ?_)
      by_cases e : v = k
      · subst e; exact hn
      · exact hp v (by omega)
    refine z_go 90 rfl ?_
    refine z_rem rfl (by decide) ?_
    refine z_go 90 rfl ?_
    rw [show nI k - nI k / (4 : Int32) * (4 : Int32) = nI (k % 4) from n_rem (b := 4) (by omega) (by omega) (by omega)]
    refine z_get zr_o rfl rfl rfl rfl ?_
    refine z_go 90 rfl ?_
    refine z_div rfl (by decide) ?_
    refine z_go 90 rfl ?_
    rw [show nI k / (4 : Int32) = nI (k / 4) from n_div (b := 4) (by omega) (by omega) (by omega)]
    have l10 := sN_lt I0 (k := 10) (i := k / 4) rfl
    have l13 := sN_lt I0 (k := 13) (i := k) rfl
    refine r_lv10 (k / 4) (sN_eq I0 rfl) (i_nI (by omega)) (by omega) rfl ?_
    refine z_go 90 rfl ?_
    refine z_br rfl rfl (fun u => ?_) (fun u => ?_) <;> (try dsimp only at u)
    · rw [n_le (by omega) (by omega)] at u
      exact go (by omega)
    rw [n_le (by omega) (by omega)] at u
    refine z_go 90 rfl ?_
    refine z_get zr_o rfl rfl rfl rfl ?_
    refine z_go 90 rfl ?_
    refine r_lv13 k (sN_eq I0 rfl) (i_nI (by omega)) (by omega) rfl ?_
    refine z_go 90 rfl ?_
    refine z_br rfl rfl (fun w => ?_) (fun w => ?_) <;> (try dsimp only at w)
    · rw [show (0 : Int32) = nI 0 from rfl, n_eq (by omega) (by omega)] at w
      exact go (fun z => w z.2.1)
    rw [show (0 : Int32) = nI 0 from rfl, n_eq (by omega) (by omega)] at w
    refine z_go 90 rfl ?_
    refine z_get zr_o rfl rfl rfl rfl ?_
    refine z_go 90 rfl ?_
    refine r_lv11 k (sN_eq I0 rfl) (i_nI (by omega)) (by omega) rfl ?_
    refine z_go 90 rfl ?_
    refine z_get zr_o rfl rfl rfl rfl ?_
    refine z_go 90 rfl ?_
    refine r_lv12 k (sN_eq I0 rfl) (i_nI (by omega)) (by omega) rfl ?_
    refine z_go 90 rfl ?_
    refine z_cV zr_o (rc_leads G I0 (sN S 11 k) (sN S 12 k) b (r2 k (by omega) (by omega)) hb) KX11_leads IX11_leads VX11_leads rfl rfl rfl PX11_leads rfl rfl rfl rfl ?_
    refine z_go 90 rfl ?_
    refine z_ite (p := sLd S (sN S 11 k) (sN S 12 k) b) (fun q => ?_) (fun q => ?_)
    · rw [zif_pos q]
      refine z_br rfl rfl (fun c => absurd c (by first | decide | (dsimp only; decide))) (fun _ => ?_)
      refine z_go 90 rfl ?_
      exact yes2 (Or.inr ⟨k, by omega, by omega, w, q⟩) _
    · rw [zif_neg q]
      refine z_br rfl rfl (fun _ => ?_) (fun c => absurd c (by decide))
      exact go (fun z => q z.2.2)
  refine zm_of_z G KX11_isRooted rfl rfl ?_
  refine z_go 90 rfl ?_
  refine r_v7 e7 rfl rfl rfl ?_
  refine z_go 90 rfl ?_
  have H := zdown (P := fun k => (∀ j, j < k → ¬ sLd S (sN S 5 j) (sN S 6 j) b) → Z X MX11_isRooted (2, 154, h.2.1, h.2.2) (zr X h m S) 7 [some (.ref m), some (.int (nI b)), some (.int (nI k))] [.int (nI (sN S 7 0)), .int (nI k)] (zX (zr X h m S) (some (.int (zif (sRt S b) 1 0))))) (sN S 7 0) (fun k hk ih hp => ?_) 0 (Nat.zero_le _) (fun j hj => by omega)
  · exact H
  refine z_br rfl rfl (fun c => ?_) (fun c => ?_) <;> (try dsimp only at c)
  · rw [n_le (by omega) (by omega)] at c
    refine z_go 90 rfl ?_
    refine r_v14 e14 rfl rfl rfl ?_
    refine z_go 90 rfl ?_
    rw [show (4 : Int32) * nI (sN S 14 0) = nI (4 * sN S 14 0) from n_mul 4 _]
    exact H2 (fun j hj => hp j (by omega))
  rw [n_le (by omega) (by omega)] at c
  refine z_go 90 rfl ?_
  refine z_get zr_o rfl rfl rfl rfl ?_
  refine z_go 90 rfl ?_
  refine r_lv5 k (sN_eq I0 rfl) (i_nI (by omega)) (by omega) rfl ?_
  refine z_go 90 rfl ?_
  refine z_get zr_o rfl rfl rfl rfl ?_
  refine z_go 90 rfl ?_
  refine r_lv6 k (sN_eq I0 rfl) (i_nI (by omega)) (by omega) rfl ?_
  refine z_go 90 rfl ?_
  refine z_cV zr_o (rc_leads G I0 (sN S 5 k) (sN S 6 k) b (r1 k (by omega)) hb) KX11_leads IX11_leads VX11_leads rfl rfl rfl PX11_leads rfl rfl rfl rfl ?_
  refine z_go 90 rfl ?_
  refine z_ite (p := sLd S (sN S 5 k) (sN S 6 k) b) (fun q => ?_) (fun q => ?_)
  · rw [zif_pos q]
    refine z_br rfl rfl (fun c => absurd c (by first | decide | (dsimp only; decide))) (fun _ => ?_)
    refine z_go 90 rfl ?_
    exact yes (Or.inl ⟨k, by omega, q⟩) _
  · rw [zif_neg q]
    refine z_br rfl rfl (fun _ => ?_) (fun c => absurd c (by first | decide | (dsimp only; decide)))
    refine z_go 90 rfl ?_
    rw [show nI k + (1 : Int32) = nI (k + 1) from n_succ k]
    refine r_v7 e7 rfl rfl rfl ?_
    refine z_go 90 rfl ?_
    refine ih (by omega) (fun j hj => ?_)
    by_cases e : j = k
    · subst e; exact q
    · exact hp j (by omega)
end ZWK
