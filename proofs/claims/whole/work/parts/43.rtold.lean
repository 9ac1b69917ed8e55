section ZCH
variable {X : zCx} {h : zHp} {m : Nat} {S : zS} {cc : Nat}
/-- lock, unlock -/
def sBadC (S : zS) (p q : Int32) : Prop := sNoA S q ∨ (0 < q.toInt ∧ (p.toInt < 0 ∨ (sN S 1 0 : Int) < p.toInt + q.toInt))
def sChC (S : zS) (p : Int32) (n : Nat) (v : Int32) (g : Nat) : Prop := p.toInt ≤ 8 * (g : Int) ∧ 8 * (g : Int) + 8 ≤ p.toInt + n ∧ S 4 g = v
noncomputable def sChS (S : zS) (p : Int32) (n : Nat) (v w : Int32) (k : Nat) : zS := zV S 4 (fun g => zif (g < k ∧ sChC S p n v g) w (S 4 g))
noncomputable def sChN (S : zS) (p : Int32) (n : Nat) (v : Int32) (k : Nat) : Nat := zSum (fun g => zif (sChC S p n v g) 1 0) k
noncomputable def sChange (S : zS) (p q v w : Int32) : Int32 × zS := zif (sBadC S p q) (0, sThrow S 1) (nI (sChN S p q.toInt.toNat v (sN S 1 0 / 8)), sChS (sThrow S 0) p q.toInt.toNat v w (sN S 1 0 / 8))
theorem rc_change1 (G : zG X) (I : sInv S cc) (p v w : Int32) (n : Nat) (hn : n ≤ 8192) : Z X MX11_change (1, 127, h.2.1, h.2.2) (zr X h m S) 53 [some (.ref m), some (.int p), some (.int (nI n)), some (.int v), some (.int w), some (.int (nI 0)), some (.int (nI 0))] [.ref m, .int (nI 0)] (zX (zr X h m (sChS S p n v w (sN S 1 0 / 8))) (some (.int (nI (sChN S p n v (sN S 1 0 / 8)))))) := by
  have N2 := I.2.1.2.1
  have rp := i_rng p
  have lp := l_i p
  have ln := l_nI (n := n) (by omega)
  have e1 : S 1 0 = nI (sN S 1 0) := sN_eq I.1 rfl
  have e1k : ∀ k, sChS S p n v w k 1 0 = nI (sN S 1 0) := fun k => e1
  refine z_eqS (S' := sChS S p n v w 0) ?_ ?_
  · unfold sChS
    rw [show (fun g => zif (g < 0 ∧ sChC S p n v g) w (S 4 g)) = S 4 from funext fun g => zif_neg (fun z => by have := z.1; omega)]
    exact (zV_same S 4).symm
  refine r_v1 (e1k 0) rfl rfl rfl ?_
  refine z_go 90 rfl ?_
  refine z_div rfl (by decide) ?_
  refine z_go 90 rfl ?_
  rw [show nI (sN S 1 0) / (8 : Int32) = nI (sN S 1 0 / 8) from n_div (b := 8) (by omega) (by omega) (by omega)]
  have H := zdown (P := fun k => Z X MX11_change (1, 127, h.2.1, h.2.2) (zr X h m (sChS S p n v w k)) 59 [some (.ref m), some (.int p), some (.int (nI n)), some (.int v), some (.int w), some (.int (nI (sChN S p n v k))), some (.int (nI k))] [.int (nI (sN S 1 0 / 8)), .int (nI k)] (zX (zr X h m (sChS S p n v w (sN S 1 0 / 8))) (some (.int (nI (sChN S p n v (sN S 1 0 / 8))))))) (sN S 1 0 / 8) (fun k hk ih => ?_) 0 (Nat.zero_le _)
  · exact H
  refine z_br rfl rfl (fun c => ?_) (fun c => ?_) <;> (try dsimp only at c)
  · rw [n_le (by omega) (by omega)] at c
    have : k = sN S 1 0 / 8 := by omega
    subst this
    refine z_go 90 rfl ?_
    exact z_iret rfl rfl ⟨rfl, rfl⟩
  rw [n_le (by omega) (by omega)] at c
  have ih := ih (by omega)
  have hN : sChN S p n v (k + 1) = sChN S p n v k + zif (sChC S p n v k) 1 0 := rfl
  have skip : ¬ sChC S p n v k → Z X MX11_change (1, 127, h.2.1, h.2.2) (zr X h m (sChS S p n v w k)) 117 [some (.ref m), some (.int p), some (.int (nI n)), some (.int v), some (.int w), some (.int (nI (sChN S p n v k))), some (.int (nI k))] [] (zX (zr X h m (sChS S p n v w (sN S 1 0 / 8))) (some (.int (nI (sChN S p n v (sN S 1 0 / 8)))))) := by
    intro hc
    rw [hN, zif_neg hc] at ih
    refine z_go 90 rfl ?_
    refine r_v1 (e1k k) rfl rfl rfl ?_
    refine z_go 90 rfl ?_
    refine z_div rfl (by decide) ?_
    refine z_go 90 rfl ?_
    rw [show nI (sN S 1 0) / (8 : Int32) = nI (sN S 1 0 / 8) from n_div (b := 8) (by omega) (by omega) (by omega)]
    rw [show nI k + (1 : Int32) = nI (k + 1) from n_succ k]
    refine z_eqS ?_ ih
    unfold sChS
    refine congrArg (zV S 4) (funext fun g => ?_)
    by_cases q : g < k ∧ sChC S p n v g
    · rw [zif_pos q, zif_pos ⟨by omega, q.2⟩]
    · rw [zif_neg q, zif_neg]
      rintro ⟨z1, z2⟩
      by_cases e : g = k
      · subst e; exact hc z2
      · exact q ⟨by omega, z2⟩
  refine z_go 90 rfl ?_
  rw [show (8 : Int32) * nI k = nI (8 * k) from n_mul 8 k]
  have t8k := i_nI (n := 8 * k) (by omega)
  refine z_br rfl rfl (fun d => ?_) (fun d => ?_) <;> (try dsimp only at d)
  · rw [i_lt] at d
    exact skip (fun z => by have := z.1; omega)
  rw [i_lt] at d
  refine z_ldc2 rfl z_lit8 ?_
  refine z_go 90 rfl ?_
  refine z_ldc2 rfl z_lit8 ?_
  refine z_go 90 rfl ?_
  have z8 : (8 : Int64).toInt = 8 := rfl
  have lk := l_nI (n := k) (by omega)
  have hx1 : ((8 : Int64) * (nI k).toInt64).toInt = 8 * k := by rw [l_mul] <;> rw [z8, lk] <;> omega
  have hx2 : ((8 : Int64) * (nI k).toInt64 + 8).toInt = 8 * k + 8 := by rw [l_add] <;> omega
  have hx3 : (p.toInt64 + (nI n).toInt64).toInt = p.toInt + n := by rw [l_add] <;> omega
  refine z_br rfl rfl (fun e => ?_) (fun e => ?_) <;> (try dsimp only at e)
  · rw [lc_gt] at e
    exact skip (fun z => by have := z.2.1; omega)
  rw [lc_gt] at e
  refine z_go 90 rfl ?_
  refine z_get zr_o rfl rfl rfl rfl ?_
  refine z_go 90 rfl ?_
  refine r_lv4 k (show zif (k < k ∧ sChC S p n v k) w (S 4 k) = S 4 k from zif_neg (fun z => by have := z.1; omega)) (i_nI (by omega)) (by omega) rfl ?_
  refine z_go 90 rfl ?_
  refine z_br rfl rfl (fun q => ?_) (fun q => ?_) <;> (try dsimp only at q)
  · refine z_go 90 rfl ?_
    have hc : sChC S p n v k := ⟨by omega, by omega, q⟩
    rw [hN, zif_pos hc] at ih
    refine z_get zr_o rfl rfl rfl rfl ?_
    refine z_go 90 rfl ?_
    refine r_st4 k (i_nI (by omega)) (by omega) rfl ?_
    refine z_go 90 rfl ?_
    refine r_v1 (e1k k) rfl rfl rfl ?_
    refine z_go 90 rfl ?_
    refine z_div rfl (by decide) ?_
    refine z_go 90 rfl ?_
    rw [show nI (sN S 1 0) / (8 : Int32) = nI (sN S 1 0 / 8) from n_div (b := 8) (by omega) (by omega) (by omega)]
    rw [show nI k + (1 : Int32) = nI (k + 1) from n_succ k, show nI (sChN S p n v k) + (1 : Int32) = nI (sChN S p n v k + 1) from n_succ _]
    refine z_eqS ?_ ih
    unfold sChS
    rw [zV_V]
    refine congrArg (zV S 4) (funext fun g => ?_)
    show (if g = k then w else zif (g < k ∧ sChC S p n v g) w (S 4 g)) = zif (g < k + 1 ∧ sChC S p n v g) w (S 4 g)
    by_cases c1 : g = k
    · subst c1; rw [if_pos rfl, zif_pos ⟨by omega, hc⟩]
    · rw [if_neg c1]
      by_cases c2 : g < k ∧ sChC S p n v g
      · rw [zif_pos c2, zif_pos ⟨by omega, c2.2⟩]
      · rw [zif_neg c2, zif_neg (fun z => c2 ⟨by have := z.1; omega, z.2⟩)]
  · refine z_go 1 rfl ?_
    exact skip (fun z => q z.2.2)
theorem rc_change (G : zG X) (I : sInv S cc) (p q v w : Int32) : ZM X MX11_change 1 127 [.ref m, .int p, .int q, .int v, .int w] (zr X h m S) (zX (zr X h m (sChange S p q v w).2) (some (.int (sChange S p q v w).1))) := by
  have N2 := I.2.1.2.1
  have rp := i_rng p
  have rq := i_rng q
  have lp := l_i p
  have lq := l_i q
  have t0 : (0 : Int32).toInt = 0 := rfl
  have l1 := l_nI (n := sN S 1 0) (by omega)
  have bad : sBadC S p q → Z X MX11_change (1, 127, h.2.1, h.2.2) (zr X h m S) 36 [some (.ref m), some (.int p), some (.int q), some (.int v), some (.int w), none, none] [.int 1, .ref m] (zX (zr X h m (sChange S p q v w).2) (some (.int (sChange S p q v w).1))) := by
    intro hb
    refine rr_yes G (by decide) rfl rfl rfl rfl rfl ?_
    refine z_go 90 rfl ?_
    refine z_iret rfl rfl ?_
    unfold sChange
    rw [zif_pos hb]
    exact ⟨rfl, rfl⟩
  have good : ¬ sBadC S p q → Z X MX11_change (1, 127, h.2.1, h.2.2) (zr X h m S) 36 [some (.ref m), some (.int p), some (.int q), some (.int v), some (.int w), none, none] [.int 0, .ref m] (zX (zr X h m (sChange S p q v w).2) (some (.int (sChange S p q v w).1))) := by
    intro hb
    refine rr_no G rfl rfl rfl rfl rfl ?_
    have hS : sChange S p q v w = _ := zif_neg hb
    rw [hS]
    unfold sBadC sNoA at hb
    obtain ⟨n, rfl, hn⟩ := i_nat (x := q) (by omega)
    rw [i_nI hn] at hb ⊢
    rw [Int.toNat_natCast]
    refine z_go 90 rfl ?_
    exact rc_change1 (h := h) (m := m) G (sInv_T I 0 (by decide)) p v w n (by omega)
  refine zm_of_z G KX11_change rfl rfl ?_
  refine z_go 90 rfl ?_
  refine z_cV zr_o (rc_noAmount G I q) KX11_noAmount IX11_noAmount VX11_noAmount rfl rfl rfl PX11_noAmount rfl rfl rfl rfl ?_
  refine z_go 90 rfl ?_
  refine z_ite (p := sNoA S q) (fun nv => ?_) (fun nv => ?_)
  · rw [zif_pos nv]
    refine z_br rfl rfl (fun _ => ?_) (fun c => absurd c (by first | decide | (dsimp only; decide)))
    refine z_go 90 rfl ?_
    exact bad (Or.inl nv)
  rw [zif_neg nv]
  refine z_br rfl rfl (fun c => absurd c (by first | decide | (dsimp only; decide))) (fun _ => ?_)
  refine z_go 90 rfl ?_
  refine z_br rfl rfl (fun c => ?_) (fun c => ?_) <;> (try dsimp only at c)
  · rw [i_le] at c
    refine z_go 90 rfl ?_
    exact good (fun z => by rcases z with z | z; exact nv z; omega)
  rw [i_le] at c
  refine z_go 90 rfl ?_
  refine z_br rfl rfl (fun d => ?_) (fun d => ?_) <;> (try dsimp only at d)
  · rw [i_lt] at d
    refine z_go 90 rfl ?_
    exact bad (Or.inr ⟨by omega, Or.inl (by omega)⟩)
  rw [i_lt] at d
  refine z_go 90 rfl ?_
  refine r_v1 (sN_eq I.1 rfl) rfl rfl rfl ?_
  refine z_go 90 rfl ?_
  have hx3 : (p.toInt64 + q.toInt64).toInt = p.toInt + q.toInt := by rw [l_add] <;> omega
  refine z_br rfl rfl (fun e => ?_) (fun e => ?_) <;> (try dsimp only at e)
  · rw [lc_le] at e
    refine z_go 90 rfl ?_
    exact good (fun z => by rcases z with z | z; exact nv z; omega)
  · rw [lc_le] at e
    refine z_go 90 rfl ?_
    exact bad (Or.inr ⟨by omega, Or.inr (by omega)⟩)
theorem rc_lock (G : zG X) (I : sInv S cc) (p q : Int32) : ZM X MX11_lock 2 154 [.ref m, .int p, .int q] (zr X h m S) (zX (zr X h m (sChange S p q 0 247).2) (some (.int (sChange S p q 0 247).1))) := by
  refine zm_of_z G KX11_lock rfl rfl ?_
  refine z_go 90 rfl ?_
  refine z_cV zr_o (rc_change G I p q 0 247) KX11_change IX11_change VX11_change rfl rfl rfl PX11_change rfl rfl rfl rfl ?_
  refine z_go 90 rfl ?_
  exact z_iret rfl rfl ⟨rfl, rfl⟩
theorem rc_unlock (G : zG X) (I : sInv S cc) (p q : Int32) : ZM X MX11_unlock 2 154 [.ref m, .int p, .int q] (zr X h m S) (zX (zr X h m (sChange S p q 247 0).2) (some (.int (sChange S p q 247 0).1))) := by
  refine zm_of_z G KX11_unlock rfl rfl ?_
  refine z_go 90 rfl ?_
  refine z_cV zr_o (rc_change G I p q 247 0) KX11_change IX11_change VX11_change rfl rfl rfl PX11_change rfl rfl rfl rfl ?_
  refine z_go 90 rfl ?_
  exact z_iret rfl rfl ⟨rfl, rfl⟩
/-- report -/
noncomputable def sReport (S : zS) (p q : Int32) : Int32 × zS := zif (p.toInt < 0 ∨ (sN S 27 0 : Int) ≤ p.toInt) (0, sThrow S 1) (zif (q.toInt < 0 ∨ 9 < q.toInt) (0, sThrow S 2) (S 26 (10 * p.toInt.toNat + q.toInt.toNat), sThrow S 0))
theorem rc_report (G : zG X) (I : sInv S cc) (p q : Int32) : ZM X MX11_report 1 127 [.ref m, .int p, .int q] (zr X h m S) (zX (zr X h m (sReport S p q).2) (some (.int (sReport S p q).1))) := by
  obtain ⟨I0, In, Ig, If, Ib, Iq, Ih, Im, c1, c2, c3, c4⟩ := id I
  have t0 : (0 : Int32).toInt = 0 := rfl
  have t9 : (9 : Int32).toInt = 9 := rfl
  have t27 := i_nI (n := sN S 27 0) (by omega)
  have bad : (p.toInt < 0 ∨ (sN S 27 0 : Int) ≤ p.toInt) → Z X MX11_report (1, 127, h.2.1, h.2.2) (zr X h m S) 32 [some (.ref m), some (.int p), some (.int q)] [.int 1, .ref m] (zX (zr X h m (sReport S p q).2) (some (.int (sReport S p q).1))) := by
    intro hb
    refine rr_yes G (by decide) rfl rfl rfl rfl rfl ?_
    refine z_go 90 rfl ?_
    refine z_iret rfl rfl ?_
    unfold sReport
    rw [zif_pos hb]
    exact ⟨rfl, rfl⟩
  have bad2 : ¬ (p.toInt < 0 ∨ (sN S 27 0 : Int) ≤ p.toInt) → (q.toInt < 0 ∨ 9 < q.toInt) → Z X MX11_report (1, 127, h.2.1, h.2.2) (zr X h m S) 32 [some (.ref m), some (.int p), some (.int q)] [.int 2, .ref m] (zX (zr X h m (sReport S p q).2) (some (.int (sReport S p q).1))) := by
    intro ha hb
    refine rr_yes G (by decide) rfl rfl rfl rfl rfl ?_
    refine z_go 90 rfl ?_
    refine z_iret rfl rfl ?_
    unfold sReport
    rw [zif_neg ha, zif_pos hb]
    exact ⟨rfl, rfl⟩
  refine zm_of_z G KX11_report rfl rfl ?_
  refine z_go 90 rfl ?_
  refine z_br rfl rfl (fun c => ?_) (fun c => ?_) <;> (try dsimp only at c)
  · rw [i_lt] at c
    refine z_go 90 rfl ?_
    exact bad (by omega)
  rw [i_lt] at c
  refine z_go 90 rfl ?_
  refine r_v27 (sN_eq I0 rfl) rfl rfl rfl ?_
  refine z_go 90 rfl ?_
  refine z_br rfl rfl (fun d => ?_) (fun d => ?_) <;> (try dsimp only at d)
  case _ =>
    rw [i_lt] at d
    refine z_go 90 rfl ?_
    refine z_br rfl rfl (fun e => ?_) (fun e => ?_) <;> (try dsimp only at e)
    · rw [i_lt] at e
      refine z_go 90 rfl ?_
      exact bad2 (by omega) (by omega)
    rw [i_lt] at e
    refine z_go 90 rfl ?_
    refine z_br rfl rfl (fun k => ?_) (fun k => ?_) <;> (try dsimp only at k)
    case _ =>
      rw [i_le] at k
      refine z_go 90 rfl ?_
      refine rr_no G rfl rfl rfl rfl rfl ?_
      have hS : sReport S p q = (S 26 (10 * p.toInt.toNat + q.toInt.toNat), sThrow S 0) := by unfold sReport; rw [zif_neg (by omega), zif_neg (by omega)]
      rw [hS]
      obtain ⟨a, rfl, ha⟩ := i_nat (x := p) (by omega)
      obtain ⟨b, rfl, hb⟩ := i_nat (x := q) (by omega)
      rw [i_nI ha] at c d ⊢
      rw [i_nI hb] at e k ⊢
      rw [Int.toNat_natCast, Int.toNat_natCast]
      refine z_go 90 rfl ?_
      refine z_get zr_o rfl rfl rfl rfl ?_
      refine z_go 90 rfl ?_
      rw [show (10 : Int32) * nI a + nI b = nI (10 * a + b) from by rw [show (10 : Int32) = nI 10 from rfl, n_mul, n_add]]
      refine r_ld26 (10 * a + b) (i_nI (by omega)) (by omega) rfl ?_
      refine z_go 90 rfl ?_
      exact z_iret rfl rfl ⟨rfl, rfl⟩
    · rw [i_le] at k
      refine z_go 90 rfl ?_
      exact bad2 (by omega) (by omega)
  · rw [i_lt] at d
    refine z_go 90 rfl ?_
    exact bad (by omega)
end ZCH
