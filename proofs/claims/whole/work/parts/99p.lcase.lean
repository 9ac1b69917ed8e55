section ZLW
variable {X : zCx} {o m oa p q b L c fc fd : Nat} {S : zS} {D : Nat → Nat → Nat} {W : Nat → Nat → Int32} {K : Nat → Nat → Nat} {h : zHp} {g : Nat → Int64} {xs : Nat → Int32} {Q : zRs → zHp → Prop}
def zRf (X : zCx) (S : zS) (m : Nat) : Nat → Option va_E := fun a => if m ≤ a ∧ a < m + 23 then zrc X S m (a - m) else none
theorem zFu_at (F : Nat → Option va_E) (oa : Nat) (e : va_E) : zFu F oa e oa = some e := if_pos rfl
theorem zFu_tw (F : Nat → Option va_E) (oa : Nat) (e e' : va_E) : zFu (zFu F oa e) oa e' = zFu F oa e' := by
  funext a
  unfold zFu
  by_cases c : a = oa
  · rw [if_pos c, if_pos c]
  · rw [if_neg c, if_neg c, if_neg c]
theorem zrc_some (X : zCx) (S : zS) (m j : Nat) (hj : j < 23) : ∃ e, zrc X S m j = some e := by
  match j, hj with
  | 0, _ => exact ⟨_, rfl⟩
  | 1, _ => exact ⟨_, rfl⟩
  | 2, _ => exact ⟨_, rfl⟩
  | 3, _ => exact ⟨_, rfl⟩
  | 4, _ => exact ⟨_, rfl⟩
  | 5, _ => exact ⟨_, rfl⟩
  | 6, _ => exact ⟨_, rfl⟩
  | 7, _ => exact ⟨_, rfl⟩
  | 8, _ => exact ⟨_, rfl⟩
  | 9, _ => exact ⟨_, rfl⟩
  | 10, _ => exact ⟨_, rfl⟩
  | 11, _ => exact ⟨_, rfl⟩
  | 12, _ => exact ⟨_, rfl⟩
  | 13, _ => exact ⟨_, rfl⟩
  | 14, _ => exact ⟨_, rfl⟩
  | 15, _ => exact ⟨_, rfl⟩
  | 16, _ => exact ⟨_, rfl⟩
  | 17, _ => exact ⟨_, rfl⟩
  | 18, _ => exact ⟨_, rfl⟩
  | 19, _ => exact ⟨_, rfl⟩
  | 20, _ => exact ⟨_, rfl⟩
  | 21, _ => exact ⟨_, rfl⟩
  | 22, _ => exact ⟨_, rfl⟩
  | n + 23, hj => exact absurd hj (by omega)
theorem zr_id {S' : zS} {e : va_E} (R : zSt X (zFu (zRf X S m) oa e) o S' D W K h p q) (mo : m + 23 ≤ oa) : zr X h m S = h := by
  refine Prod.ext (funext fun a => ?_) rfl
  show (if m ≤ a ∧ a < m + 23 then zrc X S m (a - m) else h.1 a) = h.1 a
  by_cases c : m ≤ a ∧ a < m + 23
  · rw [if_pos c]
    obtain ⟨e1, h1⟩ := zrc_some X S m (a - m) (by omega)
    have : zFu (zRf X S m) oa e a = some e1 := by
      unfold zFu zRf
      rw [if_neg (by omega), if_pos c, h1]
    rw [(R.2.2.2.1 a e1 this).1, h1]
  · rw [if_neg c]
theorem zSt_ref {S' : zS} {e : va_E} (R : zSt X (zFu (zRf X S m) oa e) o S' D W K h p q) (mo : m + 23 ≤ oa) (S2 : zS) : zSt X (zFu (zRf X S2 m) oa e) o S' D W K (zr X h m S2) p q := by
  have out : ∀ r i, zvd S' K r i → ¬ (m ≤ D r i ∧ D r i < m + 23) := fun r i v z => by
    obtain ⟨e1, h1⟩ := zrc_some X S m (D r i - m) (by omega)
    have : zFu (zRf X S m) oa e (D r i) = some e1 := by
      unfold zFu zRf
      rw [if_neg (by omega), if_pos z, h1]
    exact (R.2.2.2.1 _ e1 this).2 r i v rfl
  have ho := R.2.2.2.1 oa e (zFu_at _ _ _)
  obtain ⟨⟨R1, R2, R3⟩, R4, R5, R6, R7⟩ := R
  refine ⟨⟨fun r i v => ?_, R2, R3⟩, R4, R5, fun a e' he => ?_, R7⟩
  · show (if m ≤ D r i ∧ D r i < m + 23 then _ else h.1 (D r i)) = _
    rw [if_neg (out r i v)]
    exact R1 r i v
  · unfold zFu at he
    by_cases c : a = oa
    · rw [if_pos c] at he
      cases he
      rw [c]
      refine ⟨?_, ho.2⟩
      show (if m ≤ oa ∧ oa < m + 23 then _ else h.1 oa) = _
      rw [if_neg (by omega)]
      exact ho.1
    · rw [if_neg c] at he
      unfold zRf at he
      by_cases d : m ≤ a ∧ a < m + 23
      · rw [if_pos d] at he
        refine ⟨?_, fun r i v z => out r i v (by rw [z]; exact d)⟩
        show (if m ≤ a ∧ a < m + 23 then zrc X S2 m (a - m) else h.1 a) = _
        rw [if_pos d, he]
      · rw [if_neg d] at he
        cases he
theorem lc_self (x : Int64) : lg_cmp x x = 0 := by
  apply i_ext
  have h1 := (lc_le x x).mpr (Int.le_refl _)
  have h2 : ¬ lg_cmp x x < 0 := fun z => by
    have := (lg_cmp_lt x x).mp z
    rw [Int64.lt_iff_toInt_lt] at this
    omega
  have t0 : (0 : Int32).toInt = 0 := rfl
  rw [i_le] at h1
  rw [i_lt] at h2
  omega
theorem x_i {i j : Nat} {k : Int32} (hk : k = nI j) (h : i + j < 2147483648) : (nI i + k).toInt = ((i + j : Nat) : Int) := by
  rw [hk, n_add, i_nI h]
theorem n_5 (c : Nat) : nI (2 + 5 * c) + (5 : Int32) = nI (2 + 5 * (c + 1)) := (n_add _ 5).trans (congrArg nI (by omega))
theorem sLength_00 (S : zS) (a : Int32) : (sLength S a).2 0 0 = 0 := by
  show (sLen (sThrow S 0) a).2 0 0 = 0
  rw [sLen_0]
  rfl
theorem sText_00 (S : zS) (a b : Int32) : (sText S a b).2 0 0 = 0 := by
  unfold sText
  split
  · rw [sLen_0]
    rfl
  · rw [sCopies_0]
    rfl
theorem z_litL : Jvm.Cond.constantLong "ShadowWardLaw" 136 4294967295 ∈ lw_tbl := z_in (List.mem_of_getElem? (i := 1386) (by decide +kernel))
theorem lw_global (G : zG X) (hS : zScr X b L xs) (hL : L ≤ 2562) (hc : 2 + 5 * c + 5 ≤ L) (I : sInv S c) (hcc : c < 512) (mo : m + 23 ≤ oa) (R : zSt X (zFu (zRf X S m) oa (zJ X 1 g)) o S D W K h p q) (hp : p + 100 ≤ 500000 ∧ q + 10000 ≤ 7000000) (nxt : ∀ (S1 : zS) (h1 : zHp) (g1 : Nat → Int64) (D1 : Nat → Nat → Nat) (W1 : Nat → Nat → Int32) (K1 : Nat → Nat → Nat) (l5 l6 l7 : Option Value), sInv S1 (c + 1) → zSt X (zFu (zRf X S1 m) oa (zJ X 1 g1)) o S1 D1 W1 K1 h1 (p + 30) (q + 4000) → Z X ML_law (14, 532, fc, fd) h1 46 [some (.ref b), some (.ref o), some (.ref m), some (.ref oa), some (.int (nI (2 + 5 * (c + 1)))), l5, l6, l7] [.ref b, .int (nI (2 + 5 * (c + 1)))] Q) (o5 o6 o7 : Option Value) : Z X ML_law (14, 532, fc, fd) h 168 [some (.ref b), some (.ref o), some (.ref m), some (.ref oa), some (.int (nI (2 + 5 * c))), o5, o6, o7] [] Q := by
  have hoa := zFu_at (zRf X S m) oa (zJ X 1 g)
  refine z_go 90 rfl ?_
  refine z_sld (2 + 5 * c + 1) hS rfl (x_i rfl (by omega)) (by omega) ?_
  refine z_go 90 rfl ?_
  refine z_invS (kh_global G I hcc R hp hoa (xs (2 + 5 * c + 1))) KL_global SL_global rfl rfl PL_global rfl rfl rfl rfl (fun v9 h1 P9 => ?_) (fun E9 h1 P9 => by cases P9.1)
  obtain ⟨ev, g1, D1, W1, K1, R1, hv⟩ := P9
  cases ev
  rw [zFu_tw] at R1
  refine z_go 90 rfl ?_
  refine z_sld (2 + 5 * c + 1) hS rfl (x_i rfl (by omega)) (by omega) ?_
  refine z_go 90 rfl ?_
  refine z_cong (zr_id R1 mo).symm rfl rfl ?_
  refine z_cV zr_o (rc_global G (xs (2 + 5 * c + 1)) I.1 I.2.1.2.1 (by have := I.2.2.1.1; omega)) KX11_global IX11_global VX11_global rfl rfl rfl PX11_global rfl rfl rfl rfl ?_
  have R2 := zSt_ref R1 mo (sGlobal S (xs (2 + 5 * c + 1))).2
  have Iv := sGlobal_inv I hcc (xs (2 + 5 * c + 1))
  refine z_go 90 rfl ?_
  refine z_cV zr_o (rc_thrown G) KX11_thrown IX11_thrown VX11_thrown rfl rfl rfl PX11_thrown rfl rfl rfl rfl ?_
  refine z_go 90 rfl ?_
  refine z_br rfl rfl (fun _ => ?_) (fun z9 => absurd rfl z9)
  refine z_go 90 rfl ?_
  refine z_ite (p := (sGlobal S (xs (2 + 5 * c + 1))).2 0 0 = 0) (fun e9 => ?_) (fun e9 => ?_)
  · refine z_br rfl rfl (fun z9 => absurd e9 z9) (fun _ => ?_)
    refine z_go 90 rfl ?_
    refine z_lald 0 (R2.2.2.2.1 oa _ (zFu_at _ _ _)).1 rfl rfl (by decide) ?_
    rw [hv e9]
    refine z_go 90 rfl ?_
    refine z_br rfl rfl (fun _ => ?_) (fun z9 => absurd (lc_self _) z9)
    refine z_go 90 rfl ?_
    rw [n_5]
    exact nxt _ _ _ _ _ _ _ _ _ Iv R2
  · refine z_br rfl rfl (fun _ => ?_) (fun z9 => absurd z9 e9)
    refine z_go 90 rfl ?_
    rw [n_5]
    exact nxt _ _ _ _ _ _ _ _ _ Iv R2
theorem lw_enter (G : zG X) (hS : zScr X b L xs) (hL : L ≤ 2562) (hc : 2 + 5 * c + 5 ≤ L) (I : sInv S c) (hcc : c < 512) (mo : m + 23 ≤ oa) (R : zSt X (zFu (zRf X S m) oa (zJ X 1 g)) o S D W K h p q) (hp : p + 100 ≤ 500000 ∧ q + 10000 ≤ 7000000) (nxt : ∀ (S1 : zS) (h1 : zHp) (g1 : Nat → Int64) (D1 : Nat → Nat → Nat) (W1 : Nat → Nat → Int32) (K1 : Nat → Nat → Nat) (l5 l6 l7 : Option Value), sInv S1 (c + 1) → zSt X (zFu (zRf X S1 m) oa (zJ X 1 g1)) o S1 D1 W1 K1 h1 (p + 30) (q + 4000) → Z X ML_law (14, 532, fc, fd) h1 46 [some (.ref b), some (.ref o), some (.ref m), some (.ref oa), some (.int (nI (2 + 5 * (c + 1)))), l5, l6, l7] [.ref b, .int (nI (2 + 5 * (c + 1)))] Q) (o5 o6 o7 : Option Value) : Z X ML_law (14, 532, fc, fd) h 224 [some (.ref b), some (.ref o), some (.ref m), some (.ref oa), some (.int (nI (2 + 5 * c))), o5, o6, o7] [] Q := by
  have hoa := zFu_at (zRf X S m) oa (zJ X 1 g)
  refine z_go 90 rfl ?_
  refine z_sld (2 + 5 * c + 1) hS rfl (x_i rfl (by omega)) (by omega) ?_
  refine z_go 90 rfl ?_
  refine z_sld (2 + 5 * c + 2) hS rfl (x_i rfl (by omega)) (by omega) ?_
  refine z_go 90 rfl ?_
  refine z_sld (2 + 5 * c + 3) hS rfl (x_i rfl (by omega)) (by omega) ?_
  refine z_go 90 rfl ?_
  refine z_sld (2 + 5 * c + 4) hS rfl (x_i rfl (by omega)) (by omega) ?_
  refine z_go 90 rfl ?_
  refine z_invS (kh_enter G I hcc R hp hoa (xs (2 + 5 * c + 1)) (xs (2 + 5 * c + 2)) (xs (2 + 5 * c + 3)) (xs (2 + 5 * c + 4))) KL_enter SL_enter rfl rfl PL_enter rfl rfl rfl rfl (fun v9 h1 P9 => ?_) (fun E9 h1 P9 => by cases P9.1)
  obtain ⟨ev, g1, D1, W1, K1, R1, hv⟩ := P9
  cases ev
  rw [zFu_tw] at R1
  refine z_go 90 rfl ?_
  refine z_sld (2 + 5 * c + 1) hS rfl (x_i rfl (by omega)) (by omega) ?_
  refine z_go 90 rfl ?_
  refine z_sld (2 + 5 * c + 2) hS rfl (x_i rfl (by omega)) (by omega) ?_
  refine z_go 90 rfl ?_
  refine z_sld (2 + 5 * c + 3) hS rfl (x_i rfl (by omega)) (by omega) ?_
  refine z_go 90 rfl ?_
  refine z_sld (2 + 5 * c + 4) hS rfl (x_i rfl (by omega)) (by omega) ?_
  refine z_go 90 rfl ?_
  refine z_cong (zr_id R1 mo).symm rfl rfl ?_
  refine z_cV zr_o (rc_enter G I (xs (2 + 5 * c + 1)) (xs (2 + 5 * c + 2)) (xs (2 + 5 * c + 3)) (xs (2 + 5 * c + 4))) KX11_enter IX11_enter VX11_enter rfl rfl rfl PX11_enter rfl rfl rfl rfl ?_
  have R2 := zSt_ref R1 mo (sEnter S (xs (2 + 5 * c + 1)) (xs (2 + 5 * c + 2)) (xs (2 + 5 * c + 3)) (xs (2 + 5 * c + 4))).2
  have Iv := sEnter_inv I hcc (xs (2 + 5 * c + 1)) (xs (2 + 5 * c + 2)) (xs (2 + 5 * c + 3)) (xs (2 + 5 * c + 4))
  refine z_go 90 rfl ?_
  refine z_cV zr_o (rc_thrown G) KX11_thrown IX11_thrown VX11_thrown rfl rfl rfl PX11_thrown rfl rfl rfl rfl ?_
  refine z_go 90 rfl ?_
  refine z_br rfl rfl (fun _ => ?_) (fun z9 => absurd rfl z9)
  refine z_go 90 rfl ?_
  refine z_ite (p := (sEnter S (xs (2 + 5 * c + 1)) (xs (2 + 5 * c + 2)) (xs (2 + 5 * c + 3)) (xs (2 + 5 * c + 4))).2 0 0 = 0) (fun e9 => ?_) (fun e9 => ?_)
  · refine z_br rfl rfl (fun z9 => absurd e9 z9) (fun _ => ?_)
    refine z_go 90 rfl ?_
    refine z_lald 0 (R2.2.2.2.1 oa _ (zFu_at _ _ _)).1 rfl rfl (by decide) ?_
    rw [hv e9]
    refine z_go 90 rfl ?_
    refine z_br rfl rfl (fun _ => ?_) (fun z9 => absurd (lc_self _) z9)
    refine z_go 90 rfl ?_
    rw [n_5]
    exact nxt _ _ _ _ _ _ _ _ _ Iv R2
  · refine z_br rfl rfl (fun _ => ?_) (fun z9 => absurd z9 e9)
    refine z_go 90 rfl ?_
    rw [n_5]
    exact nxt _ _ _ _ _ _ _ _ _ Iv R2
theorem lw_leave (G : zG X) (hS : zScr X b L xs) (hL : L ≤ 2562) (hc : 2 + 5 * c + 5 ≤ L) (I : sInv S c) (hcc : c < 512) (mo : m + 23 ≤ oa) (R : zSt X (zFu (zRf X S m) oa (zJ X 1 g)) o S D W K h p q) (hp : p + 100 ≤ 500000 ∧ q + 10000 ≤ 7000000) (nxt : ∀ (S1 : zS) (h1 : zHp) (g1 : Nat → Int64) (D1 : Nat → Nat → Nat) (W1 : Nat → Nat → Int32) (K1 : Nat → Nat → Nat) (l5 l6 l7 : Option Value), sInv S1 (c + 1) → zSt X (zFu (zRf X S1 m) oa (zJ X 1 g1)) o S1 D1 W1 K1 h1 (p + 30) (q + 4000) → Z X ML_law (14, 532, fc, fd) h1 46 [some (.ref b), some (.ref o), some (.ref m), some (.ref oa), some (.int (nI (2 + 5 * (c + 1)))), l5, l6, l7] [.ref b, .int (nI (2 + 5 * (c + 1)))] Q) (o5 o6 o7 : Option Value) : Z X ML_law (14, 532, fc, fd) h 316 [some (.ref b), some (.ref o), some (.ref m), some (.ref oa), some (.int (nI (2 + 5 * c))), o5, o6, o7] [] Q := by
  have hoa := zFu_at (zRf X S m) oa (zJ X 1 g)
  refine z_go 90 rfl ?_
  refine z_invS (kh_leave G I hcc R hp hoa ) KL_leave SL_leave rfl rfl PL_leave rfl rfl rfl rfl (fun v9 h1 P9 => ?_) (fun E9 h1 P9 => by cases P9.1)
  obtain ⟨ev, g1, D1, W1, K1, R1, hv⟩ := P9
  cases ev
  rw [zFu_tw] at R1
  refine z_go 90 rfl ?_
  refine z_cong (zr_id R1 mo).symm rfl rfl ?_
  refine z_cV zr_o (rc_leave G I) KX11_leave IX11_leave VX11_leave rfl rfl rfl PX11_leave rfl rfl rfl rfl ?_
  have R2 := zSt_ref R1 mo (sLeave S).2
  have Iv := sLeave_inv I hcc
  refine z_go 90 rfl ?_
  refine z_cV zr_o (rc_thrown G) KX11_thrown IX11_thrown VX11_thrown rfl rfl rfl PX11_thrown rfl rfl rfl rfl ?_
  refine z_go 90 rfl ?_
  refine z_br rfl rfl (fun _ => ?_) (fun z9 => absurd rfl z9)
  refine z_go 90 rfl ?_
  refine z_ite (p := (sLeave S).2 0 0 = 0) (fun e9 => ?_) (fun e9 => ?_)
  · refine z_br rfl rfl (fun z9 => absurd e9 z9) (fun _ => ?_)
    refine z_go 90 rfl ?_
    refine z_lald 0 (R2.2.2.2.1 oa _ (zFu_at _ _ _)).1 rfl rfl (by decide) ?_
    rw [hv e9]
    refine z_go 90 rfl ?_
    refine z_br rfl rfl (fun _ => ?_) (fun z9 => absurd (lc_self _) z9)
    refine z_go 90 rfl ?_
    rw [n_5]
    exact nxt _ _ _ _ _ _ _ _ _ Iv R2
  · refine z_br rfl rfl (fun _ => ?_) (fun z9 => absurd z9 e9)
    refine z_go 90 rfl ?_
    rw [n_5]
    exact nxt _ _ _ _ _ _ _ _ _ Iv R2
theorem lw_scope (G : zG X) (hS : zScr X b L xs) (hL : L ≤ 2562) (hc : 2 + 5 * c + 5 ≤ L) (I : sInv S c) (hcc : c < 512) (mo : m + 23 ≤ oa) (R : zSt X (zFu (zRf X S m) oa (zJ X 1 g)) o S D W K h p q) (hp : p + 100 ≤ 500000 ∧ q + 10000 ≤ 7000000) (nxt : ∀ (S1 : zS) (h1 : zHp) (g1 : Nat → Int64) (D1 : Nat → Nat → Nat) (W1 : Nat → Nat → Int32) (K1 : Nat → Nat → Nat) (l5 l6 l7 : Option Value), sInv S1 (c + 1) → zSt X (zFu (zRf X S1 m) oa (zJ X 1 g1)) o S1 D1 W1 K1 h1 (p + 30) (q + 4000) → Z X ML_law (14, 532, fc, fd) h1 46 [some (.ref b), some (.ref o), some (.ref m), some (.ref oa), some (.int (nI (2 + 5 * (c + 1)))), l5, l6, l7] [.ref b, .int (nI (2 + 5 * (c + 1)))] Q) (o5 o6 o7 : Option Value) : Z X ML_law (14, 532, fc, fd) h 360 [some (.ref b), some (.ref o), some (.ref m), some (.ref oa), some (.int (nI (2 + 5 * c))), o5, o6, o7] [] Q := by
  have hoa := zFu_at (zRf X S m) oa (zJ X 1 g)
  by_cases hx : xs (2 + 5 * c + 3) = 0
  · refine z_go 90 rfl ?_
    refine z_sld (2 + 5 * c + 1) hS rfl (x_i rfl (by omega)) (by omega) ?_
    refine z_go 90 rfl ?_
    refine z_sld (2 + 5 * c + 2) hS rfl (x_i rfl (by omega)) (by omega) ?_
    refine z_go 90 rfl ?_
    refine z_sld (2 + 5 * c + 3) hS rfl (x_i rfl (by omega)) (by omega) ?_
    refine z_br rfl rfl (fun _ => ?_) (fun z9 => absurd hx z9)
    refine z_go 90 rfl ?_
    refine z_invS (kh_scope G I hcc R hp hoa (xs (2 + 5 * c + 1)) (xs (2 + 5 * c + 2)) 0 (Or.inl rfl)) KL_scope SL_scope rfl rfl PL_scope rfl rfl rfl rfl (fun v9 h1 P9 => ?_) (fun E9 h1 P9 => by cases P9.1)
    obtain ⟨ev, g1, D1, W1, K1, R1, hv⟩ := P9
    cases ev
    rw [zFu_tw] at R1
    refine z_go 90 rfl ?_
    refine z_sld (2 + 5 * c + 1) hS rfl (x_i rfl (by omega)) (by omega) ?_
    refine z_go 90 rfl ?_
    refine z_sld (2 + 5 * c + 2) hS rfl (x_i rfl (by omega)) (by omega) ?_
    refine z_go 90 rfl ?_
    refine z_sld (2 + 5 * c + 3) hS rfl (x_i rfl (by omega)) (by omega) ?_
    refine z_br rfl rfl (fun _ => ?_) (fun z9 => absurd hx z9)
    refine z_go 90 rfl ?_
    refine z_cong (zr_id R1 mo).symm rfl rfl ?_
    refine z_cV zr_o (rc_scope G I (xs (2 + 5 * c + 1)) (xs (2 + 5 * c + 2)) 0) KX11_scope IX11_scope VX11_scope rfl rfl rfl PX11_scope rfl rfl rfl rfl ?_
    have R2 := zSt_ref R1 mo (sScope S (xs (2 + 5 * c + 1)) (xs (2 + 5 * c + 2)) 0).2
    have Iv := sScope_inv I hcc (xs (2 + 5 * c + 1)) (xs (2 + 5 * c + 2)) 0
    refine z_go 90 rfl ?_
    refine z_cV zr_o (rc_thrown G) KX11_thrown IX11_thrown VX11_thrown rfl rfl rfl PX11_thrown rfl rfl rfl rfl ?_
    refine z_go 90 rfl ?_
    refine z_br rfl rfl (fun _ => ?_) (fun z9 => absurd rfl z9)
    refine z_go 90 rfl ?_
    refine z_ite (p := (sScope S (xs (2 + 5 * c + 1)) (xs (2 + 5 * c + 2)) 0).2 0 0 = 0) (fun e9 => ?_) (fun e9 => ?_)
    · refine z_br rfl rfl (fun z9 => absurd e9 z9) (fun _ => ?_)
      refine z_go 90 rfl ?_
      refine z_lald 0 (R2.2.2.2.1 oa _ (zFu_at _ _ _)).1 rfl rfl (by decide) ?_
      rw [hv e9]
      refine z_go 90 rfl ?_
      refine z_ite (p := (sScope S (xs (2 + 5 * c + 1)) (xs (2 + 5 * c + 2)) 0).1 = 0) (fun d9 => ?_) (fun d9 => ?_)
      · refine z_br rfl rfl (fun _ => ?_) (fun z9 => absurd d9 z9)
        rw [if_pos d9]
        refine z_go 90 rfl ?_
        refine z_br rfl rfl (fun _ => ?_) (fun z9 => absurd (lc_self _) z9)
        refine z_go 90 rfl ?_
        rw [n_5]
        exact nxt _ _ _ _ _ _ _ _ _ Iv R2
      · refine z_br rfl rfl (fun z9 => absurd z9 d9) (fun _ => ?_)
        rw [if_neg d9]
        refine z_go 90 rfl ?_
        refine z_br rfl rfl (fun _ => ?_) (fun z9 => absurd (lc_self _) z9)
        refine z_go 90 rfl ?_
        rw [n_5]
        exact nxt _ _ _ _ _ _ _ _ _ Iv R2
    · refine z_br rfl rfl (fun _ => ?_) (fun z9 => absurd z9 e9)
      refine z_go 90 rfl ?_
      rw [n_5]
      exact nxt _ _ _ _ _ _ _ _ _ Iv R2
  · refine z_go 90 rfl ?_
    refine z_sld (2 + 5 * c + 1) hS rfl (x_i rfl (by omega)) (by omega) ?_
    refine z_go 90 rfl ?_
    refine z_sld (2 + 5 * c + 2) hS rfl (x_i rfl (by omega)) (by omega) ?_
    refine z_go 90 rfl ?_
    refine z_sld (2 + 5 * c + 3) hS rfl (x_i rfl (by omega)) (by omega) ?_
    refine z_br rfl rfl (fun z9 => absurd z9 hx) (fun _ => ?_)
    refine z_go 90 rfl ?_
    refine z_invS (kh_scope G I hcc R hp hoa (xs (2 + 5 * c + 1)) (xs (2 + 5 * c + 2)) 1 (Or.inr rfl)) KL_scope SL_scope rfl rfl PL_scope rfl rfl rfl rfl (fun v9 h1 P9 => ?_) (fun E9 h1 P9 => by cases P9.1)
    obtain ⟨ev, g1, D1, W1, K1, R1, hv⟩ := P9
    cases ev
    rw [zFu_tw] at R1
    refine z_go 90 rfl ?_
    refine z_sld (2 + 5 * c + 1) hS rfl (x_i rfl (by omega)) (by omega) ?_
    refine z_go 90 rfl ?_
    refine z_sld (2 + 5 * c + 2) hS rfl (x_i rfl (by omega)) (by omega) ?_
    refine z_go 90 rfl ?_
    refine z_sld (2 + 5 * c + 3) hS rfl (x_i rfl (by omega)) (by omega) ?_
    refine z_br rfl rfl (fun z9 => absurd z9 hx) (fun _ => ?_)
    refine z_go 90 rfl ?_
    refine z_cong (zr_id R1 mo).symm rfl rfl ?_
    refine z_cV zr_o (rc_scope G I (xs (2 + 5 * c + 1)) (xs (2 + 5 * c + 2)) 1) KX11_scope IX11_scope VX11_scope rfl rfl rfl PX11_scope rfl rfl rfl rfl ?_
    have R2 := zSt_ref R1 mo (sScope S (xs (2 + 5 * c + 1)) (xs (2 + 5 * c + 2)) 1).2
    have Iv := sScope_inv I hcc (xs (2 + 5 * c + 1)) (xs (2 + 5 * c + 2)) 1
    refine z_go 90 rfl ?_
    refine z_cV zr_o (rc_thrown G) KX11_thrown IX11_thrown VX11_thrown rfl rfl rfl PX11_thrown rfl rfl rfl rfl ?_
    refine z_go 90 rfl ?_
    refine z_br rfl rfl (fun _ => ?_) (fun z9 => absurd rfl z9)
    refine z_go 90 rfl ?_
    refine z_ite (p := (sScope S (xs (2 + 5 * c + 1)) (xs (2 + 5 * c + 2)) 1).2 0 0 = 0) (fun e9 => ?_) (fun e9 => ?_)
    · refine z_br rfl rfl (fun z9 => absurd e9 z9) (fun _ => ?_)
      refine z_go 90 rfl ?_
      refine z_lald 0 (R2.2.2.2.1 oa _ (zFu_at _ _ _)).1 rfl rfl (by decide) ?_
      rw [hv e9]
      refine z_go 90 rfl ?_
      refine z_ite (p := (sScope S (xs (2 + 5 * c + 1)) (xs (2 + 5 * c + 2)) 1).1 = 0) (fun d9 => ?_) (fun d9 => ?_)
      · refine z_br rfl rfl (fun _ => ?_) (fun z9 => absurd d9 z9)
        rw [if_pos d9]
        refine z_go 90 rfl ?_
        refine z_br rfl rfl (fun _ => ?_) (fun z9 => absurd (lc_self _) z9)
        refine z_go 90 rfl ?_
        rw [n_5]
        exact nxt _ _ _ _ _ _ _ _ _ Iv R2
      · refine z_br rfl rfl (fun z9 => absurd z9 d9) (fun _ => ?_)
        rw [if_neg d9]
        refine z_go 90 rfl ?_
        refine z_br rfl rfl (fun _ => ?_) (fun z9 => absurd (lc_self _) z9)
        refine z_go 90 rfl ?_
        rw [n_5]
        exact nxt _ _ _ _ _ _ _ _ _ Iv R2
    · refine z_br rfl rfl (fun _ => ?_) (fun z9 => absurd z9 e9)
      refine z_go 90 rfl ?_
      rw [n_5]
      exact nxt _ _ _ _ _ _ _ _ _ Iv R2
theorem lw_variable (G : zG X) (hS : zScr X b L xs) (hL : L ≤ 2562) (hc : 2 + 5 * c + 5 ≤ L) (I : sInv S c) (hcc : c < 512) (mo : m + 23 ≤ oa) (R : zSt X (zFu (zRf X S m) oa (zJ X 1 g)) o S D W K h p q) (hp : p + 100 ≤ 500000 ∧ q + 10000 ≤ 7000000) (nxt : ∀ (S1 : zS) (h1 : zHp) (g1 : Nat → Int64) (D1 : Nat → Nat → Nat) (W1 : Nat → Nat → Int32) (K1 : Nat → Nat → Nat) (l5 l6 l7 : Option Value), sInv S1 (c + 1) → zSt X (zFu (zRf X S1 m) oa (zJ X 1 g1)) o S1 D1 W1 K1 h1 (p + 30) (q + 4000) → Z X ML_law (14, 532, fc, fd) h1 46 [some (.ref b), some (.ref o), some (.ref m), some (.ref oa), some (.int (nI (2 + 5 * (c + 1)))), l5, l6, l7] [.ref b, .int (nI (2 + 5 * (c + 1)))] Q) (o5 o6 o7 : Option Value) : Z X ML_law (14, 532, fc, fd) h 463 [some (.ref b), some (.ref o), some (.ref m), some (.ref oa), some (.int (nI (2 + 5 * c))), o5, o6, o7] [] Q := by
  have hoa := zFu_at (zRf X S m) oa (zJ X 1 g)
  refine z_go 90 rfl ?_
  refine z_sld (2 + 5 * c + 1) hS rfl (x_i rfl (by omega)) (by omega) ?_
  refine z_go 90 rfl ?_
  refine z_sld (2 + 5 * c + 2) hS rfl (x_i rfl (by omega)) (by omega) ?_
  refine z_go 90 rfl ?_
  refine z_invS (kh_variable G I hcc R hp hoa (xs (2 + 5 * c + 1)) (xs (2 + 5 * c + 2))) KL_variable SL_variable rfl rfl PL_variable rfl rfl rfl rfl (fun v9 h1 P9 => ?_) (fun E9 h1 P9 => by cases P9.1)
  obtain ⟨ev, g1, D1, W1, K1, R1, hv⟩ := P9
  cases ev
  rw [zFu_tw] at R1
  refine z_go 90 rfl ?_
  refine z_sld (2 + 5 * c + 1) hS rfl (x_i rfl (by omega)) (by omega) ?_
  refine z_go 90 rfl ?_
  refine z_sld (2 + 5 * c + 2) hS rfl (x_i rfl (by omega)) (by omega) ?_
  refine z_go 90 rfl ?_
  refine z_cong (zr_id R1 mo).symm rfl rfl ?_
  refine z_cV zr_o (rc_var G I (xs (2 + 5 * c + 1)) (xs (2 + 5 * c + 2))) KX11_variable IX11_variable VX11_variable rfl rfl rfl PX11_variable rfl rfl rfl rfl ?_
  have R2 := zSt_ref R1 mo (sVar S (xs (2 + 5 * c + 1)) (xs (2 + 5 * c + 2))).2
  have Iv := sVar_inv I hcc (xs (2 + 5 * c + 1)) (xs (2 + 5 * c + 2))
  refine z_go 90 rfl ?_
  refine z_cV zr_o (rc_thrown G) KX11_thrown IX11_thrown VX11_thrown rfl rfl rfl PX11_thrown rfl rfl rfl rfl ?_
  refine z_go 90 rfl ?_
  refine z_br rfl rfl (fun _ => ?_) (fun z9 => absurd rfl z9)
  refine z_go 90 rfl ?_
  refine z_ite (p := (sVar S (xs (2 + 5 * c + 1)) (xs (2 + 5 * c + 2))).2 0 0 = 0) (fun e9 => ?_) (fun e9 => ?_)
  · refine z_br rfl rfl (fun z9 => absurd e9 z9) (fun _ => ?_)
    refine z_go 90 rfl ?_
    refine z_lald 0 (R2.2.2.2.1 oa _ (zFu_at _ _ _)).1 rfl rfl (by decide) ?_
    rw [hv e9]
    refine z_go 90 rfl ?_
    refine z_br rfl rfl (fun _ => ?_) (fun z9 => absurd (lc_self _) z9)
    refine z_go 90 rfl ?_
    rw [n_5]
    exact nxt _ _ _ _ _ _ _ _ _ Iv R2
  · refine z_br rfl rfl (fun _ => ?_) (fun z9 => absurd z9 e9)
    refine z_go 90 rfl ?_
    rw [n_5]
    exact nxt _ _ _ _ _ _ _ _ _ Iv R2
theorem lw_allocate (G : zG X) (hS : zScr X b L xs) (hL : L ≤ 2562) (hc : 2 + 5 * c + 5 ≤ L) (I : sInv S c) (hcc : c < 512) (mo : m + 23 ≤ oa) (R : zSt X (zFu (zRf X S m) oa (zJ X 1 g)) o S D W K h p q) (hp : p + 100 ≤ 500000 ∧ q + 10000 ≤ 7000000) (nxt : ∀ (S1 : zS) (h1 : zHp) (g1 : Nat → Int64) (D1 : Nat → Nat → Nat) (W1 : Nat → Nat → Int32) (K1 : Nat → Nat → Nat) (l5 l6 l7 : Option Value), sInv S1 (c + 1) → zSt X (zFu (zRf X S1 m) oa (zJ X 1 g1)) o S1 D1 W1 K1 h1 (p + 30) (q + 4000) → Z X ML_law (14, 532, fc, fd) h1 46 [some (.ref b), some (.ref o), some (.ref m), some (.ref oa), some (.int (nI (2 + 5 * (c + 1)))), l5, l6, l7] [.ref b, .int (nI (2 + 5 * (c + 1)))] Q) (o5 o6 o7 : Option Value) : Z X ML_law (14, 532, fc, fd) h 531 [some (.ref b), some (.ref o), some (.ref m), some (.ref oa), some (.int (nI (2 + 5 * c))), o5, o6, o7] [] Q := by
  have hoa := zFu_at (zRf X S m) oa (zJ X 1 g)
  refine z_go 90 rfl ?_
  refine z_sld (2 + 5 * c + 1) hS rfl (x_i rfl (by omega)) (by omega) ?_
  refine z_go 90 rfl ?_
  refine z_sld (2 + 5 * c + 2) hS rfl (x_i rfl (by omega)) (by omega) ?_
  refine z_go 90 rfl ?_
  refine z_sld (2 + 5 * c + 3) hS rfl (x_i rfl (by omega)) (by omega) ?_
  refine z_go 90 rfl ?_
  refine z_invS (kh_allocate G I hcc R hp hoa (xs (2 + 5 * c + 1)) (xs (2 + 5 * c + 2)) (xs (2 + 5 * c + 3))) KL_allocate SL_allocate rfl rfl PL_allocate rfl rfl rfl rfl (fun v9 h1 P9 => ?_) (fun E9 h1 P9 => by cases P9.1)
  obtain ⟨ev, g1, D1, W1, K1, R1, hv⟩ := P9
  cases ev
  rw [zFu_tw] at R1
  refine z_go 90 rfl ?_
  refine z_sld (2 + 5 * c + 1) hS rfl (x_i rfl (by omega)) (by omega) ?_
  refine z_go 90 rfl ?_
  refine z_sld (2 + 5 * c + 2) hS rfl (x_i rfl (by omega)) (by omega) ?_
  refine z_go 90 rfl ?_
  refine z_sld (2 + 5 * c + 3) hS rfl (x_i rfl (by omega)) (by omega) ?_
  refine z_go 90 rfl ?_
  refine z_cong (zr_id R1 mo).symm rfl rfl ?_
  refine z_cV zr_o (rc_alloc G I (xs (2 + 5 * c + 1)) (xs (2 + 5 * c + 2)) (xs (2 + 5 * c + 3))) KX11_allocate IX11_allocate VX11_allocate rfl rfl rfl PX11_allocate rfl rfl rfl rfl ?_
  have R2 := zSt_ref R1 mo (sAlloc S (xs (2 + 5 * c + 1)) (xs (2 + 5 * c + 2)) (xs (2 + 5 * c + 3))).2
  have Iv := sAlloc_inv I hcc (xs (2 + 5 * c + 1)) (xs (2 + 5 * c + 2)) (xs (2 + 5 * c + 3))
  refine z_go 90 rfl ?_
  refine z_cV zr_o (rc_thrown G) KX11_thrown IX11_thrown VX11_thrown rfl rfl rfl PX11_thrown rfl rfl rfl rfl ?_
  refine z_go 90 rfl ?_
  refine z_br rfl rfl (fun _ => ?_) (fun z9 => absurd rfl z9)
  refine z_go 90 rfl ?_
  refine z_ite (p := (sAlloc S (xs (2 + 5 * c + 1)) (xs (2 + 5 * c + 2)) (xs (2 + 5 * c + 3))).2 0 0 = 0) (fun e9 => ?_) (fun e9 => ?_)
  · refine z_br rfl rfl (fun z9 => absurd e9 z9) (fun _ => ?_)
    refine z_go 90 rfl ?_
    refine z_lald 0 (R2.2.2.2.1 oa _ (zFu_at _ _ _)).1 rfl rfl (by decide) ?_
    rw [hv e9]
    refine z_go 90 rfl ?_
    refine z_br rfl rfl (fun _ => ?_) (fun z9 => absurd (lc_self _) z9)
    refine z_go 90 rfl ?_
    rw [n_5]
    exact nxt _ _ _ _ _ _ _ _ _ Iv R2
  · refine z_br rfl rfl (fun _ => ?_) (fun z9 => absurd z9 e9)
    refine z_go 90 rfl ?_
    rw [n_5]
    exact nxt _ _ _ _ _ _ _ _ _ Iv R2
theorem lw_free (G : zG X) (hS : zScr X b L xs) (hL : L ≤ 2562) (hc : 2 + 5 * c + 5 ≤ L) (I : sInv S c) (hcc : c < 512) (mo : m + 23 ≤ oa) (R : zSt X (zFu (zRf X S m) oa (zJ X 1 g)) o S D W K h p q) (hp : p + 100 ≤ 500000 ∧ q + 10000 ≤ 7000000) (nxt : ∀ (S1 : zS) (h1 : zHp) (g1 : Nat → Int64) (D1 : Nat → Nat → Nat) (W1 : Nat → Nat → Int32) (K1 : Nat → Nat → Nat) (l5 l6 l7 : Option Value), sInv S1 (c + 1) → zSt X (zFu (zRf X S1 m) oa (zJ X 1 g1)) o S1 D1 W1 K1 h1 (p + 30) (q + 4000) → Z X ML_law (14, 532, fc, fd) h1 46 [some (.ref b), some (.ref o), some (.ref m), some (.ref oa), some (.int (nI (2 + 5 * (c + 1)))), l5, l6, l7] [.ref b, .int (nI (2 + 5 * (c + 1)))] Q) (o5 o6 o7 : Option Value) : Z X ML_law (14, 532, fc, fd) h 611 [some (.ref b), some (.ref o), some (.ref m), some (.ref oa), some (.int (nI (2 + 5 * c))), o5, o6, o7] [] Q := by
  have hoa := zFu_at (zRf X S m) oa (zJ X 1 g)
  refine z_go 90 rfl ?_
  refine z_sld (2 + 5 * c + 1) hS rfl (x_i rfl (by omega)) (by omega) ?_
  refine z_go 90 rfl ?_
  refine z_sld (2 + 5 * c + 2) hS rfl (x_i rfl (by omega)) (by omega) ?_
  refine z_go 90 rfl ?_
  refine z_sld (2 + 5 * c + 3) hS rfl (x_i rfl (by omega)) (by omega) ?_
  refine z_go 90 rfl ?_
  refine z_invS (kh_free G I hcc R hp hoa (xs (2 + 5 * c + 1)) (xs (2 + 5 * c + 2)) (xs (2 + 5 * c + 3))) KL_free SL_free rfl rfl PL_free rfl rfl rfl rfl (fun v9 h1 P9 => ?_) (fun E9 h1 P9 => by cases P9.1)
  obtain ⟨ev, g1, D1, W1, K1, R1, hv⟩ := P9
  cases ev
  rw [zFu_tw] at R1
  refine z_go 90 rfl ?_
  refine z_sld (2 + 5 * c + 1) hS rfl (x_i rfl (by omega)) (by omega) ?_
  refine z_go 90 rfl ?_
  refine z_sld (2 + 5 * c + 2) hS rfl (x_i rfl (by omega)) (by omega) ?_
  refine z_go 90 rfl ?_
  refine z_sld (2 + 5 * c + 3) hS rfl (x_i rfl (by omega)) (by omega) ?_
  refine z_go 90 rfl ?_
  refine z_cong (zr_id R1 mo).symm rfl rfl ?_
  refine z_cV zr_o (rc_free G I hcc (xs (2 + 5 * c + 1)) (xs (2 + 5 * c + 2)) (xs (2 + 5 * c + 3))) KX11_free IX11_free VX11_free rfl rfl rfl PX11_free rfl rfl rfl rfl ?_
  have R2 := zSt_ref R1 mo (sFreeC S (xs (2 + 5 * c + 1)) (xs (2 + 5 * c + 2)) (xs (2 + 5 * c + 3))).2
  have Iv := sFreeC_inv I hcc (xs (2 + 5 * c + 1)) (xs (2 + 5 * c + 2)) (xs (2 + 5 * c + 3))
  refine z_go 90 rfl ?_
  refine z_cV zr_o (rc_thrown G) KX11_thrown IX11_thrown VX11_thrown rfl rfl rfl PX11_thrown rfl rfl rfl rfl ?_
  refine z_go 90 rfl ?_
  refine z_br rfl rfl (fun _ => ?_) (fun z9 => absurd rfl z9)
  refine z_go 90 rfl ?_
  refine z_ite (p := (sFreeC S (xs (2 + 5 * c + 1)) (xs (2 + 5 * c + 2)) (xs (2 + 5 * c + 3))).2 0 0 = 0) (fun e9 => ?_) (fun e9 => ?_)
  · refine z_br rfl rfl (fun z9 => absurd e9 z9) (fun _ => ?_)
    refine z_go 90 rfl ?_
    refine z_lald 0 (R2.2.2.2.1 oa _ (zFu_at _ _ _)).1 rfl rfl (by decide) ?_
    rw [hv e9]
    refine z_go 90 rfl ?_
    refine z_ite (p := (sFreeC S (xs (2 + 5 * c + 1)) (xs (2 + 5 * c + 2)) (xs (2 + 5 * c + 3))).1 = 0) (fun d9 => ?_) (fun d9 => ?_)
    · refine z_br rfl rfl (fun _ => ?_) (fun z9 => absurd d9 z9)
      rw [if_pos d9]
      refine z_go 90 rfl ?_
      refine z_br rfl rfl (fun _ => ?_) (fun z9 => absurd (lc_self _) z9)
      refine z_go 90 rfl ?_
      rw [n_5]
      exact nxt _ _ _ _ _ _ _ _ _ Iv R2
    · refine z_br rfl rfl (fun z9 => absurd z9 d9) (fun _ => ?_)
      rw [if_neg d9]
      refine z_go 90 rfl ?_
      refine z_br rfl rfl (fun _ => ?_) (fun z9 => absurd (lc_self _) z9)
      refine z_go 90 rfl ?_
      rw [n_5]
      exact nxt _ _ _ _ _ _ _ _ _ Iv R2
  · refine z_br rfl rfl (fun _ => ?_) (fun z9 => absurd z9 e9)
    refine z_go 90 rfl ?_
    rw [n_5]
    exact nxt _ _ _ _ _ _ _ _ _ Iv R2
theorem lw_resize (G : zG X) (hS : zScr X b L xs) (hL : L ≤ 2562) (hc : 2 + 5 * c + 5 ≤ L) (I : sInv S c) (hcc : c < 512) (mo : m + 23 ≤ oa) (R : zSt X (zFu (zRf X S m) oa (zJ X 1 g)) o S D W K h p q) (hp : p + 100 ≤ 500000 ∧ q + 10000 ≤ 7000000) (nxt : ∀ (S1 : zS) (h1 : zHp) (g1 : Nat → Int64) (D1 : Nat → Nat → Nat) (W1 : Nat → Nat → Int32) (K1 : Nat → Nat → Nat) (l5 l6 l7 : Option Value), sInv S1 (c + 1) → zSt X (zFu (zRf X S1 m) oa (zJ X 1 g1)) o S1 D1 W1 K1 h1 (p + 30) (q + 4000) → Z X ML_law (14, 532, fc, fd) h1 46 [some (.ref b), some (.ref o), some (.ref m), some (.ref oa), some (.int (nI (2 + 5 * (c + 1)))), l5, l6, l7] [.ref b, .int (nI (2 + 5 * (c + 1)))] Q) (o5 o6 o7 : Option Value) : Z X ML_law (14, 532, fc, fd) h 698 [some (.ref b), some (.ref o), some (.ref m), some (.ref oa), some (.int (nI (2 + 5 * c))), o5, o6, o7] [] Q := by
  have hoa := zFu_at (zRf X S m) oa (zJ X 1 g)
  refine z_go 90 rfl ?_
  refine z_sld (2 + 5 * c + 1) hS rfl (x_i rfl (by omega)) (by omega) ?_
  refine z_go 90 rfl ?_
  refine z_sld (2 + 5 * c + 2) hS rfl (x_i rfl (by omega)) (by omega) ?_
  refine z_go 90 rfl ?_
  refine z_sld (2 + 5 * c + 3) hS rfl (x_i rfl (by omega)) (by omega) ?_
  refine z_go 90 rfl ?_
  refine z_invS (kh_resize G I hcc R hp hoa (xs (2 + 5 * c + 1)) (xs (2 + 5 * c + 2)) (xs (2 + 5 * c + 3))) KL_resize SL_resize rfl rfl PL_resize rfl rfl rfl rfl (fun v9 h1 P9 => ?_) (fun E9 h1 P9 => by cases P9.1)
  obtain ⟨ev, g1, D1, W1, K1, R1, hv⟩ := P9
  cases ev
  rw [zFu_tw] at R1
  refine z_go 90 rfl ?_
  refine z_sld (2 + 5 * c + 1) hS rfl (x_i rfl (by omega)) (by omega) ?_
  refine z_go 90 rfl ?_
  refine z_sld (2 + 5 * c + 2) hS rfl (x_i rfl (by omega)) (by omega) ?_
  refine z_go 90 rfl ?_
  refine z_sld (2 + 5 * c + 3) hS rfl (x_i rfl (by omega)) (by omega) ?_
  refine z_go 90 rfl ?_
  refine z_cong (zr_id R1 mo).symm rfl rfl ?_
  refine z_cV zr_o (rc_resize G I hcc (xs (2 + 5 * c + 1)) (xs (2 + 5 * c + 2)) (xs (2 + 5 * c + 3))) KX11_resize IX11_resize VX11_resize rfl rfl rfl PX11_resize rfl rfl rfl rfl ?_
  have R2 := zSt_ref R1 mo (sRes S (xs (2 + 5 * c + 1)) (xs (2 + 5 * c + 2)) (xs (2 + 5 * c + 3))).2
  have Iv := sRes_inv I hcc (xs (2 + 5 * c + 1)) (xs (2 + 5 * c + 2)) (xs (2 + 5 * c + 3))
  refine z_go 90 rfl ?_
  refine z_cV zr_o (rc_thrown G) KX11_thrown IX11_thrown VX11_thrown rfl rfl rfl PX11_thrown rfl rfl rfl rfl ?_
  refine z_go 90 rfl ?_
  refine z_br rfl rfl (fun _ => ?_) (fun z9 => absurd rfl z9)
  refine z_go 90 rfl ?_
  refine z_ite (p := (sRes S (xs (2 + 5 * c + 1)) (xs (2 + 5 * c + 2)) (xs (2 + 5 * c + 3))).2 0 0 = 0) (fun e9 => ?_) (fun e9 => ?_)
  · refine z_br rfl rfl (fun z9 => absurd e9 z9) (fun _ => ?_)
    refine z_go 90 rfl ?_
    refine z_lald 0 (R2.2.2.2.1 oa _ (zFu_at _ _ _)).1 rfl rfl (by decide) ?_
    rw [hv e9]
    refine z_go 90 rfl ?_
    refine z_br rfl rfl (fun _ => ?_) (fun z9 => absurd (lc_self _) z9)
    refine z_go 90 rfl ?_
    rw [n_5]
    exact nxt _ _ _ _ _ _ _ _ _ Iv R2
  · refine z_br rfl rfl (fun _ => ?_) (fun z9 => absurd z9 e9)
    refine z_go 90 rfl ?_
    rw [n_5]
    exact nxt _ _ _ _ _ _ _ _ _ Iv R2
theorem lw_load (G : zG X) (hS : zScr X b L xs) (hL : L ≤ 2562) (hc : 2 + 5 * c + 5 ≤ L) (I : sInv S c) (hcc : c < 512) (mo : m + 23 ≤ oa) (R : zSt X (zFu (zRf X S m) oa (zJ X 1 g)) o S D W K h p q) (hp : p + 100 ≤ 500000 ∧ q + 10000 ≤ 7000000) (nxt : ∀ (S1 : zS) (h1 : zHp) (g1 : Nat → Int64) (D1 : Nat → Nat → Nat) (W1 : Nat → Nat → Int32) (K1 : Nat → Nat → Nat) (l5 l6 l7 : Option Value), sInv S1 (c + 1) → zSt X (zFu (zRf X S1 m) oa (zJ X 1 g1)) o S1 D1 W1 K1 h1 (p + 30) (q + 4000) → Z X ML_law (14, 532, fc, fd) h1 46 [some (.ref b), some (.ref o), some (.ref m), some (.ref oa), some (.int (nI (2 + 5 * (c + 1)))), l5, l6, l7] [.ref b, .int (nI (2 + 5 * (c + 1)))] Q) (o5 o6 o7 : Option Value) : Z X ML_law (14, 532, fc, fd) h 778 [some (.ref b), some (.ref o), some (.ref m), some (.ref oa), some (.int (nI (2 + 5 * c))), o5, o6, o7] [] Q := by
  have hoa := zFu_at (zRf X S m) oa (zJ X 1 g)
  refine z_go 90 rfl ?_
  refine z_sld (2 + 5 * c + 1) hS rfl (x_i rfl (by omega)) (by omega) ?_
  refine z_go 90 rfl ?_
  refine z_sld (2 + 5 * c + 2) hS rfl (x_i rfl (by omega)) (by omega) ?_
  refine z_go 90 rfl ?_
  refine z_invS (kh_load G I hcc R hp hoa (xs (2 + 5 * c + 1)) (xs (2 + 5 * c + 2))) KL_load SL_load rfl rfl PL_load rfl rfl rfl rfl (fun v9 h1 P9 => ?_) (fun E9 h1 P9 => by cases P9.1)
  obtain ⟨ev, g1, D1, W1, K1, R1, hv⟩ := P9
  cases ev
  rw [zFu_tw] at R1
  refine z_go 90 rfl ?_
  refine z_sld (2 + 5 * c + 1) hS rfl (x_i rfl (by omega)) (by omega) ?_
  refine z_go 90 rfl ?_
  refine z_sld (2 + 5 * c + 2) hS rfl (x_i rfl (by omega)) (by omega) ?_
  refine z_go 90 rfl ?_
  refine z_cong (zr_id R1 mo).symm rfl rfl ?_
  refine z_cV zr_o (rc_load G I (xs (2 + 5 * c + 1)) (xs (2 + 5 * c + 2))) KX11_load IX11_load VX11_load rfl rfl rfl PX11_load rfl rfl rfl rfl ?_
  have R2 := zSt_ref R1 mo (sLoad S (xs (2 + 5 * c + 1)) (xs (2 + 5 * c + 2))).2
  have Iv := sLoad_inv I hcc (xs (2 + 5 * c + 1)) (xs (2 + 5 * c + 2))
  refine z_go 90 rfl ?_
  refine z_cV zr_o (rc_thrown G) KX11_thrown IX11_thrown VX11_thrown rfl rfl rfl PX11_thrown rfl rfl rfl rfl ?_
  refine z_go 90 rfl ?_
  refine z_br rfl rfl (fun _ => ?_) (fun z9 => absurd rfl z9)
  refine z_go 90 rfl ?_
  refine z_ite (p := (sLoad S (xs (2 + 5 * c + 1)) (xs (2 + 5 * c + 2))).2 0 0 = 0) (fun e9 => ?_) (fun e9 => ?_)
  · refine z_br rfl rfl (fun z9 => absurd e9 z9) (fun _ => ?_)
    refine z_go 90 rfl ?_
    refine z_lald 0 (R2.2.2.2.1 oa _ (zFu_at _ _ _)).1 rfl rfl (by decide) ?_
    rw [hv e9]
    refine z_go 90 rfl ?_
    refine z_br rfl rfl (fun _ => ?_) (fun z9 => absurd (lc_self _) z9)
    refine z_go 90 rfl ?_
    rw [n_5]
    exact nxt _ _ _ _ _ _ _ _ _ Iv R2
  · refine z_br rfl rfl (fun _ => ?_) (fun z9 => absurd z9 e9)
    refine z_go 90 rfl ?_
    rw [n_5]
    exact nxt _ _ _ _ _ _ _ _ _ Iv R2
theorem lw_store (G : zG X) (hS : zScr X b L xs) (hL : L ≤ 2562) (hc : 2 + 5 * c + 5 ≤ L) (I : sInv S c) (hcc : c < 512) (mo : m + 23 ≤ oa) (R : zSt X (zFu (zRf X S m) oa (zJ X 1 g)) o S D W K h p q) (hp : p + 100 ≤ 500000 ∧ q + 10000 ≤ 7000000) (nxt : ∀ (S1 : zS) (h1 : zHp) (g1 : Nat → Int64) (D1 : Nat → Nat → Nat) (W1 : Nat → Nat → Int32) (K1 : Nat → Nat → Nat) (l5 l6 l7 : Option Value), sInv S1 (c + 1) → zSt X (zFu (zRf X S1 m) oa (zJ X 1 g1)) o S1 D1 W1 K1 h1 (p + 30) (q + 4000) → Z X ML_law (14, 532, fc, fd) h1 46 [some (.ref b), some (.ref o), some (.ref m), some (.ref oa), some (.int (nI (2 + 5 * (c + 1)))), l5, l6, l7] [.ref b, .int (nI (2 + 5 * (c + 1)))] Q) (o5 o6 o7 : Option Value) : Z X ML_law (14, 532, fc, fd) h 845 [some (.ref b), some (.ref o), some (.ref m), some (.ref oa), some (.int (nI (2 + 5 * c))), o5, o6, o7] [] Q := by
  have hoa := zFu_at (zRf X S m) oa (zJ X 1 g)
  refine z_go 90 rfl ?_
  refine z_sld (2 + 5 * c + 1) hS rfl (x_i rfl (by omega)) (by omega) ?_
  refine z_go 90 rfl ?_
  refine z_sld (2 + 5 * c + 2) hS rfl (x_i rfl (by omega)) (by omega) ?_
  refine z_go 90 rfl ?_
  refine z_sld (2 + 5 * c + 3) hS rfl (x_i rfl (by omega)) (by omega) ?_
  refine z_go 90 rfl ?_
  refine z_sld (2 + 5 * c + 4) hS rfl (x_i rfl (by omega)) (by omega) ?_
  refine z_go 90 rfl ?_
  refine z_ldc2 rfl z_litL ?_
  refine z_go 90 rfl ?_
  refine z_invS (kh_store G I hcc R hp hoa (xs (2 + 5 * c + 1)) (xs (2 + 5 * c + 2)) (((xs (2 + 5 * c + 3)).toInt64 <<< ((32 : Int32).toInt64 &&& 63)) ||| ((xs (2 + 5 * c + 4)).toInt64 &&& 4294967295))) KL_store SL_store rfl rfl PL_store rfl rfl rfl rfl (fun v9 h1 P9 => ?_) (fun E9 h1 P9 => by cases P9.1)
  obtain ⟨ev, g1, D1, W1, K1, R1, hv⟩ := P9
  cases ev
  rw [zFu_tw] at R1
  refine z_go 90 rfl ?_
  refine z_sld (2 + 5 * c + 1) hS rfl (x_i rfl (by omega)) (by omega) ?_
  refine z_go 90 rfl ?_
  refine z_sld (2 + 5 * c + 2) hS rfl (x_i rfl (by omega)) (by omega) ?_
  refine z_go 90 rfl ?_
  refine z_sld (2 + 5 * c + 3) hS rfl (x_i rfl (by omega)) (by omega) ?_
  refine z_go 90 rfl ?_
  refine z_sld (2 + 5 * c + 4) hS rfl (x_i rfl (by omega)) (by omega) ?_
  refine z_go 90 rfl ?_
  refine z_ldc2 rfl z_litL ?_
  refine z_go 90 rfl ?_
  refine z_cong (zr_id R1 mo).symm rfl rfl ?_
  refine z_cV zr_o (rc_store G I (xs (2 + 5 * c + 1)) (xs (2 + 5 * c + 2)) (((xs (2 + 5 * c + 3)).toInt64 <<< ((32 : Int32).toInt64 &&& 63)) ||| ((xs (2 + 5 * c + 4)).toInt64 &&& 4294967295))) KX11_store IX11_store VX11_store rfl rfl rfl PX11_store rfl rfl rfl rfl ?_
  have R2 := zSt_ref R1 mo (sStore S (xs (2 + 5 * c + 1)) (xs (2 + 5 * c + 2)) (((xs (2 + 5 * c + 3)).toInt64 <<< ((32 : Int32).toInt64 &&& 63)) ||| ((xs (2 + 5 * c + 4)).toInt64 &&& 4294967295))).2
  have Iv := sStore_inv I hcc (xs (2 + 5 * c + 1)) (xs (2 + 5 * c + 2)) (((xs (2 + 5 * c + 3)).toInt64 <<< ((32 : Int32).toInt64 &&& 63)) ||| ((xs (2 + 5 * c + 4)).toInt64 &&& 4294967295))
  refine z_go 90 rfl ?_
  refine z_cV zr_o (rc_thrown G) KX11_thrown IX11_thrown VX11_thrown rfl rfl rfl PX11_thrown rfl rfl rfl rfl ?_
  refine z_go 90 rfl ?_
  refine z_br rfl rfl (fun _ => ?_) (fun z9 => absurd rfl z9)
  refine z_go 90 rfl ?_
  refine z_ite (p := (sStore S (xs (2 + 5 * c + 1)) (xs (2 + 5 * c + 2)) (((xs (2 + 5 * c + 3)).toInt64 <<< ((32 : Int32).toInt64 &&& 63)) ||| ((xs (2 + 5 * c + 4)).toInt64 &&& 4294967295))).2 0 0 = 0) (fun e9 => ?_) (fun e9 => ?_)
  · refine z_br rfl rfl (fun z9 => absurd e9 z9) (fun _ => ?_)
    refine z_go 90 rfl ?_
    refine z_lald 0 (R2.2.2.2.1 oa _ (zFu_at _ _ _)).1 rfl rfl (by decide) ?_
    rw [hv e9]
    refine z_go 90 rfl ?_
    refine z_ite (p := (sStore S (xs (2 + 5 * c + 1)) (xs (2 + 5 * c + 2)) (((xs (2 + 5 * c + 3)).toInt64 <<< ((32 : Int32).toInt64 &&& 63)) ||| ((xs (2 + 5 * c + 4)).toInt64 &&& 4294967295))).1 = 0) (fun d9 => ?_) (fun d9 => ?_)
    · refine z_br rfl rfl (fun _ => ?_) (fun z9 => absurd d9 z9)
      rw [if_pos d9]
      refine z_go 90 rfl ?_
      refine z_br rfl rfl (fun _ => ?_) (fun z9 => absurd (lc_self _) z9)
      refine z_go 90 rfl ?_
      rw [n_5]
      exact nxt _ _ _ _ _ _ _ _ _ Iv R2
    · refine z_br rfl rfl (fun z9 => absurd z9 d9) (fun _ => ?_)
      rw [if_neg d9]
      refine z_go 90 rfl ?_
      refine z_br rfl rfl (fun _ => ?_) (fun z9 => absurd (lc_self _) z9)
      refine z_go 90 rfl ?_
      rw [n_5]
      exact nxt _ _ _ _ _ _ _ _ _ Iv R2
  · refine z_br rfl rfl (fun _ => ?_) (fun z9 => absurd z9 e9)
    refine z_go 90 rfl ?_
    rw [n_5]
    exact nxt _ _ _ _ _ _ _ _ _ Iv R2
theorem lw_fill (G : zG X) (hS : zScr X b L xs) (hL : L ≤ 2562) (hc : 2 + 5 * c + 5 ≤ L) (I : sInv S c) (hcc : c < 512) (mo : m + 23 ≤ oa) (R : zSt X (zFu (zRf X S m) oa (zJ X 1 g)) o S D W K h p q) (hp : p + 100 ≤ 500000 ∧ q + 10000 ≤ 7000000) (nxt : ∀ (S1 : zS) (h1 : zHp) (g1 : Nat → Int64) (D1 : Nat → Nat → Nat) (W1 : Nat → Nat → Int32) (K1 : Nat → Nat → Nat) (l5 l6 l7 : Option Value), sInv S1 (c + 1) → zSt X (zFu (zRf X S1 m) oa (zJ X 1 g1)) o S1 D1 W1 K1 h1 (p + 30) (q + 4000) → Z X ML_law (14, 532, fc, fd) h1 46 [some (.ref b), some (.ref o), some (.ref m), some (.ref oa), some (.int (nI (2 + 5 * (c + 1)))), l5, l6, l7] [.ref b, .int (nI (2 + 5 * (c + 1)))] Q) (o5 o6 o7 : Option Value) : Z X ML_law (14, 532, fc, fd) h 964 [some (.ref b), some (.ref o), some (.ref m), some (.ref oa), some (.int (nI (2 + 5 * c))), o5, o6, o7] [] Q := by
  have hoa := zFu_at (zRf X S m) oa (zJ X 1 g)
  refine z_go 90 rfl ?_
  refine z_sld (2 + 5 * c + 1) hS rfl (x_i rfl (by omega)) (by omega) ?_
  refine z_go 90 rfl ?_
  refine z_sld (2 + 5 * c + 2) hS rfl (x_i rfl (by omega)) (by omega) ?_
  refine z_go 90 rfl ?_
  refine z_sld (2 + 5 * c + 3) hS rfl (x_i rfl (by omega)) (by omega) ?_
  refine z_go 90 rfl ?_
  refine z_invS (kh_fill G I hcc R hp hoa (xs (2 + 5 * c + 1)) (xs (2 + 5 * c + 2)) (xs (2 + 5 * c + 3))) KL_fill SL_fill rfl rfl PL_fill rfl rfl rfl rfl (fun v9 h1 P9 => ?_) (fun E9 h1 P9 => by cases P9.1)
  obtain ⟨ev, g1, D1, W1, K1, R1, hv⟩ := P9
  cases ev
  rw [zFu_tw] at R1
  refine z_go 90 rfl ?_
  refine z_sld (2 + 5 * c + 1) hS rfl (x_i rfl (by omega)) (by omega) ?_
  refine z_go 90 rfl ?_
  refine z_sld (2 + 5 * c + 2) hS rfl (x_i rfl (by omega)) (by omega) ?_
  refine z_go 90 rfl ?_
  refine z_sld (2 + 5 * c + 3) hS rfl (x_i rfl (by omega)) (by omega) ?_
  refine z_go 90 rfl ?_
  refine z_cong (zr_id R1 mo).symm rfl rfl ?_
  refine z_cV zr_o (rc_fill G I (xs (2 + 5 * c + 1)) (xs (2 + 5 * c + 2)) (xs (2 + 5 * c + 3))) KX11_fill IX11_fill VX11_fill rfl rfl rfl PX11_fill rfl rfl rfl rfl ?_
  have R2 := zSt_ref R1 mo (sFill S (xs (2 + 5 * c + 1)) (xs (2 + 5 * c + 2)) (xs (2 + 5 * c + 3))).2
  have Iv := sFill_inv I hcc (xs (2 + 5 * c + 1)) (xs (2 + 5 * c + 2)) (xs (2 + 5 * c + 3))
  refine z_go 90 rfl ?_
  refine z_cV zr_o (rc_thrown G) KX11_thrown IX11_thrown VX11_thrown rfl rfl rfl PX11_thrown rfl rfl rfl rfl ?_
  refine z_go 90 rfl ?_
  refine z_br rfl rfl (fun _ => ?_) (fun z9 => absurd rfl z9)
  refine z_go 90 rfl ?_
  refine z_ite (p := (sFill S (xs (2 + 5 * c + 1)) (xs (2 + 5 * c + 2)) (xs (2 + 5 * c + 3))).2 0 0 = 0) (fun e9 => ?_) (fun e9 => ?_)
  · refine z_br rfl rfl (fun z9 => absurd e9 z9) (fun _ => ?_)
    refine z_go 90 rfl ?_
    refine z_lald 0 (R2.2.2.2.1 oa _ (zFu_at _ _ _)).1 rfl rfl (by decide) ?_
    rw [hv e9]
    refine z_go 90 rfl ?_
    refine z_ite (p := (sFill S (xs (2 + 5 * c + 1)) (xs (2 + 5 * c + 2)) (xs (2 + 5 * c + 3))).1 = 0) (fun d9 => ?_) (fun d9 => ?_)
    · refine z_br rfl rfl (fun _ => ?_) (fun z9 => absurd d9 z9)
      rw [if_pos d9]
      refine z_go 90 rfl ?_
      refine z_br rfl rfl (fun _ => ?_) (fun z9 => absurd (lc_self _) z9)
      refine z_go 90 rfl ?_
      rw [n_5]
      exact nxt _ _ _ _ _ _ _ _ _ Iv R2
    · refine z_br rfl rfl (fun z9 => absurd z9 d9) (fun _ => ?_)
      rw [if_neg d9]
      refine z_go 90 rfl ?_
      refine z_br rfl rfl (fun _ => ?_) (fun z9 => absurd (lc_self _) z9)
      refine z_go 90 rfl ?_
      rw [n_5]
      exact nxt _ _ _ _ _ _ _ _ _ Iv R2
  · refine z_br rfl rfl (fun _ => ?_) (fun z9 => absurd z9 e9)
    refine z_go 90 rfl ?_
    rw [n_5]
    exact nxt _ _ _ _ _ _ _ _ _ Iv R2
theorem lw_copy (G : zG X) (hS : zScr X b L xs) (hL : L ≤ 2562) (hc : 2 + 5 * c + 5 ≤ L) (I : sInv S c) (hcc : c < 512) (mo : m + 23 ≤ oa) (R : zSt X (zFu (zRf X S m) oa (zJ X 1 g)) o S D W K h p q) (hp : p + 100 ≤ 500000 ∧ q + 10000 ≤ 7000000) (nxt : ∀ (S1 : zS) (h1 : zHp) (g1 : Nat → Int64) (D1 : Nat → Nat → Nat) (W1 : Nat → Nat → Int32) (K1 : Nat → Nat → Nat) (l5 l6 l7 : Option Value), sInv S1 (c + 1) → zSt X (zFu (zRf X S1 m) oa (zJ X 1 g1)) o S1 D1 W1 K1 h1 (p + 30) (q + 4000) → Z X ML_law (14, 532, fc, fd) h1 46 [some (.ref b), some (.ref o), some (.ref m), some (.ref oa), some (.int (nI (2 + 5 * (c + 1)))), l5, l6, l7] [.ref b, .int (nI (2 + 5 * (c + 1)))] Q) (o5 o6 o7 : Option Value) : Z X ML_law (14, 532, fc, fd) h 1051 [some (.ref b), some (.ref o), some (.ref m), some (.ref oa), some (.int (nI (2 + 5 * c))), o5, o6, o7] [] Q := by
  have hoa := zFu_at (zRf X S m) oa (zJ X 1 g)
  by_cases hx : xs (2 + 5 * c + 4) = 0
  · refine z_go 90 rfl ?_
    refine z_sld (2 + 5 * c + 1) hS rfl (x_i rfl (by omega)) (by omega) ?_
    refine z_go 90 rfl ?_
    refine z_sld (2 + 5 * c + 2) hS rfl (x_i rfl (by omega)) (by omega) ?_
    refine z_go 90 rfl ?_
    refine z_sld (2 + 5 * c + 3) hS rfl (x_i rfl (by omega)) (by omega) ?_
    refine z_go 90 rfl ?_
    refine z_sld (2 + 5 * c + 4) hS rfl (x_i rfl (by omega)) (by omega) ?_
    refine z_br rfl rfl (fun _ => ?_) (fun z9 => absurd hx z9)
    refine z_go 90 rfl ?_
    refine z_invS (kh_copy G I hcc R hp hoa (xs (2 + 5 * c + 1)) (xs (2 + 5 * c + 2)) (xs (2 + 5 * c + 3)) 0 (Or.inl rfl)) KL_copy SL_copy rfl rfl PL_copy rfl rfl rfl rfl (fun v9 h1 P9 => ?_) (fun E9 h1 P9 => by cases P9.1)
    obtain ⟨ev, g1, D1, W1, K1, R1, hv⟩ := P9
    cases ev
    rw [zFu_tw] at R1
    refine z_go 90 rfl ?_
    refine z_sld (2 + 5 * c + 1) hS rfl (x_i rfl (by omega)) (by omega) ?_
    refine z_go 90 rfl ?_
    refine z_sld (2 + 5 * c + 2) hS rfl (x_i rfl (by omega)) (by omega) ?_
    refine z_go 90 rfl ?_
    refine z_sld (2 + 5 * c + 3) hS rfl (x_i rfl (by omega)) (by omega) ?_
    refine z_go 90 rfl ?_
    refine z_sld (2 + 5 * c + 4) hS rfl (x_i rfl (by omega)) (by omega) ?_
    refine z_br rfl rfl (fun _ => ?_) (fun z9 => absurd hx z9)
    refine z_go 90 rfl ?_
    refine z_cong (zr_id R1 mo).symm rfl rfl ?_
    refine z_cV zr_o (rc_copy G I (xs (2 + 5 * c + 1)) (xs (2 + 5 * c + 2)) (xs (2 + 5 * c + 3)) 0) KX11_copy IX11_copy VX11_copy rfl rfl rfl PX11_copy rfl rfl rfl rfl ?_
    have R2 := zSt_ref R1 mo (sCopy S (xs (2 + 5 * c + 1)) (xs (2 + 5 * c + 2)) (xs (2 + 5 * c + 3)) 0).2
    have Iv := sCopy_inv I hcc (xs (2 + 5 * c + 1)) (xs (2 + 5 * c + 2)) (xs (2 + 5 * c + 3)) 0
    refine z_go 90 rfl ?_
    refine z_cV zr_o (rc_thrown G) KX11_thrown IX11_thrown VX11_thrown rfl rfl rfl PX11_thrown rfl rfl rfl rfl ?_
    refine z_go 90 rfl ?_
    refine z_br rfl rfl (fun _ => ?_) (fun z9 => absurd rfl z9)
    refine z_go 90 rfl ?_
    refine z_ite (p := (sCopy S (xs (2 + 5 * c + 1)) (xs (2 + 5 * c + 2)) (xs (2 + 5 * c + 3)) 0).2 0 0 = 0) (fun e9 => ?_) (fun e9 => ?_)
    · refine z_br rfl rfl (fun z9 => absurd e9 z9) (fun _ => ?_)
      refine z_go 90 rfl ?_
      refine z_lald 0 (R2.2.2.2.1 oa _ (zFu_at _ _ _)).1 rfl rfl (by decide) ?_
      rw [hv e9]
      refine z_go 90 rfl ?_
      refine z_ite (p := (sCopy S (xs (2 + 5 * c + 1)) (xs (2 + 5 * c + 2)) (xs (2 + 5 * c + 3)) 0).1 = 0) (fun d9 => ?_) (fun d9 => ?_)
      · refine z_br rfl rfl (fun _ => ?_) (fun z9 => absurd d9 z9)
        rw [if_pos d9]
        refine z_go 90 rfl ?_
        refine z_br rfl rfl (fun _ => ?_) (fun z9 => absurd (lc_self _) z9)
        refine z_go 90 rfl ?_
        rw [n_5]
        exact nxt _ _ _ _ _ _ _ _ _ Iv R2
      · refine z_br rfl rfl (fun z9 => absurd z9 d9) (fun _ => ?_)
        rw [if_neg d9]
        refine z_go 90 rfl ?_
        refine z_br rfl rfl (fun _ => ?_) (fun z9 => absurd (lc_self _) z9)
        refine z_go 90 rfl ?_
        rw [n_5]
        exact nxt _ _ _ _ _ _ _ _ _ Iv R2
    · refine z_br rfl rfl (fun _ => ?_) (fun z9 => absurd z9 e9)
      refine z_go 90 rfl ?_
      rw [n_5]
      exact nxt _ _ _ _ _ _ _ _ _ Iv R2
  · refine z_go 90 rfl ?_
    refine z_sld (2 + 5 * c + 1) hS rfl (x_i rfl (by omega)) (by omega) ?_
    refine z_go 90 rfl ?_
    refine z_sld (2 + 5 * c + 2) hS rfl (x_i rfl (by omega)) (by omega) ?_
    refine z_go 90 rfl ?_
    refine z_sld (2 + 5 * c + 3) hS rfl (x_i rfl (by omega)) (by omega) ?_
    refine z_go 90 rfl ?_
    refine z_sld (2 + 5 * c + 4) hS rfl (x_i rfl (by omega)) (by omega) ?_
    refine z_br rfl rfl (fun z9 => absurd z9 hx) (fun _ => ?_)
    refine z_go 90 rfl ?_
    refine z_invS (kh_copy G I hcc R hp hoa (xs (2 + 5 * c + 1)) (xs (2 + 5 * c + 2)) (xs (2 + 5 * c + 3)) 1 (Or.inr rfl)) KL_copy SL_copy rfl rfl PL_copy rfl rfl rfl rfl (fun v9 h1 P9 => ?_) (fun E9 h1 P9 => by cases P9.1)
    obtain ⟨ev, g1, D1, W1, K1, R1, hv⟩ := P9
    cases ev
    rw [zFu_tw] at R1
    refine z_go 90 rfl ?_
    refine z_sld (2 + 5 * c + 1) hS rfl (x_i rfl (by omega)) (by omega) ?_
    refine z_go 90 rfl ?_
    refine z_sld (2 + 5 * c + 2) hS rfl (x_i rfl (by omega)) (by omega) ?_
    refine z_go 90 rfl ?_
    refine z_sld (2 + 5 * c + 3) hS rfl (x_i rfl (by omega)) (by omega) ?_
    refine z_go 90 rfl ?_
    refine z_sld (2 + 5 * c + 4) hS rfl (x_i rfl (by omega)) (by omega) ?_
    refine z_br rfl rfl (fun z9 => absurd z9 hx) (fun _ => ?_)
    refine z_go 90 rfl ?_
    refine z_cong (zr_id R1 mo).symm rfl rfl ?_
    refine z_cV zr_o (rc_copy G I (xs (2 + 5 * c + 1)) (xs (2 + 5 * c + 2)) (xs (2 + 5 * c + 3)) 1) KX11_copy IX11_copy VX11_copy rfl rfl rfl PX11_copy rfl rfl rfl rfl ?_
    have R2 := zSt_ref R1 mo (sCopy S (xs (2 + 5 * c + 1)) (xs (2 + 5 * c + 2)) (xs (2 + 5 * c + 3)) 1).2
    have Iv := sCopy_inv I hcc (xs (2 + 5 * c + 1)) (xs (2 + 5 * c + 2)) (xs (2 + 5 * c + 3)) 1
    refine z_go 90 rfl ?_
    refine z_cV zr_o (rc_thrown G) KX11_thrown IX11_thrown VX11_thrown rfl rfl rfl PX11_thrown rfl rfl rfl rfl ?_
    refine z_go 90 rfl ?_
    refine z_br rfl rfl (fun _ => ?_) (fun z9 => absurd rfl z9)
    refine z_go 90 rfl ?_
    refine z_ite (p := (sCopy S (xs (2 + 5 * c + 1)) (xs (2 + 5 * c + 2)) (xs (2 + 5 * c + 3)) 1).2 0 0 = 0) (fun e9 => ?_) (fun e9 => ?_)
    · refine z_br rfl rfl (fun z9 => absurd e9 z9) (fun _ => ?_)
      refine z_go 90 rfl ?_
      refine z_lald 0 (R2.2.2.2.1 oa _ (zFu_at _ _ _)).1 rfl rfl (by decide) ?_
      rw [hv e9]
      refine z_go 90 rfl ?_
      refine z_ite (p := (sCopy S (xs (2 + 5 * c + 1)) (xs (2 + 5 * c + 2)) (xs (2 + 5 * c + 3)) 1).1 = 0) (fun d9 => ?_) (fun d9 => ?_)
      · refine z_br rfl rfl (fun _ => ?_) (fun z9 => absurd d9 z9)
        rw [if_pos d9]
        refine z_go 90 rfl ?_
        refine z_br rfl rfl (fun _ => ?_) (fun z9 => absurd (lc_self _) z9)
        refine z_go 90 rfl ?_
        rw [n_5]
        exact nxt _ _ _ _ _ _ _ _ _ Iv R2
      · refine z_br rfl rfl (fun z9 => absurd z9 d9) (fun _ => ?_)
        rw [if_neg d9]
        refine z_go 90 rfl ?_
        refine z_br rfl rfl (fun _ => ?_) (fun z9 => absurd (lc_self _) z9)
        refine z_go 90 rfl ?_
        rw [n_5]
        exact nxt _ _ _ _ _ _ _ _ _ Iv R2
    · refine z_br rfl rfl (fun _ => ?_) (fun z9 => absurd z9 e9)
      refine z_go 90 rfl ?_
      rw [n_5]
      exact nxt _ _ _ _ _ _ _ _ _ Iv R2
theorem lw_length (G : zG X) (hS : zScr X b L xs) (hL : L ≤ 2562) (hc : 2 + 5 * c + 5 ≤ L) (I : sInv S c) (hcc : c < 512) (mo : m + 23 ≤ oa) (R : zSt X (zFu (zRf X S m) oa (zJ X 1 g)) o S D W K h p q) (hp : p + 100 ≤ 500000 ∧ q + 10000 ≤ 7000000) (nxt : ∀ (S1 : zS) (h1 : zHp) (g1 : Nat → Int64) (D1 : Nat → Nat → Nat) (W1 : Nat → Nat → Int32) (K1 : Nat → Nat → Nat) (l5 l6 l7 : Option Value), sInv S1 (c + 1) → zSt X (zFu (zRf X S1 m) oa (zJ X 1 g1)) o S1 D1 W1 K1 h1 (p + 30) (q + 4000) → Z X ML_law (14, 532, fc, fd) h1 46 [some (.ref b), some (.ref o), some (.ref m), some (.ref oa), some (.int (nI (2 + 5 * (c + 1)))), l5, l6, l7] [.ref b, .int (nI (2 + 5 * (c + 1)))] Q) (o5 o6 o7 : Option Value) : Z X ML_law (14, 532, fc, fd) h 1166 [some (.ref b), some (.ref o), some (.ref m), some (.ref oa), some (.int (nI (2 + 5 * c))), o5, o6, o7] [] Q := by
  have hoa := zFu_at (zRf X S m) oa (zJ X 1 g)
  refine z_go 90 rfl ?_
  refine z_sld (2 + 5 * c + 1) hS rfl (x_i rfl (by omega)) (by omega) ?_
  refine z_go 90 rfl ?_
  refine z_invV (k_length G I hcc R (by omega) (xs (2 + 5 * c + 1))) KX10_length (zSt_0 R) (by decide) IX10_length VX10_length rfl rfl PX10_length rfl rfl rfl rfl (fun v9 h1 P9 => ?_) (fun E9 h1 P9 => ?_)
  rotate_left
  · obtain ⟨-, ⟨-, ev⟩ | ⟨e1, -⟩ | ⟨e1, -, -⟩⟩ := P9
    · cases ev
    · rw [show (sLength S (xs (2 + 5 * c + 1))).2 0 0 = 0 from sLength_00 S (xs (2 + 5 * c + 1))] at e1
      exact absurd e1 (by decide)
    · rw [show (sLength S (xs (2 + 5 * c + 1))).2 0 0 = 0 from sLength_00 S (xs (2 + 5 * c + 1))] at e1
      exact absurd e1 (by decide)
  obtain ⟨⟨D1, W1, K1, R1⟩, ⟨-, ev⟩ | ⟨-, ev⟩ | ⟨-, ev, -⟩⟩ := P9
  rotate_left
  · cases ev
  · cases ev
  cases ev
  refine z_go 90 rfl ?_
  refine z_sld (2 + 5 * c + 1) hS rfl (x_i rfl (by omega)) (by omega) ?_
  refine z_go 90 rfl ?_
  refine z_cong (zr_id R1 mo).symm rfl rfl ?_
  refine z_cV zr_o (rc_length G I (xs (2 + 5 * c + 1))) KX11_length IX11_length VX11_length rfl rfl rfl PX11_length rfl rfl rfl rfl ?_
  have R2 := zSt_ref R1 mo (sLength S (xs (2 + 5 * c + 1))).2
  have Iv := sLength_inv I hcc (xs (2 + 5 * c + 1))
  refine z_br rfl rfl (fun _ => ?_) (fun z9 => absurd rfl z9)
  refine z_go 90 rfl ?_
  rw [n_5]
  exact nxt _ _ _ _ _ _ _ _ _ Iv (zSt_le R2 (by omega) (by omega))
theorem lw_text (G : zG X) (hS : zScr X b L xs) (hL : L ≤ 2562) (hc : 2 + 5 * c + 5 ≤ L) (I : sInv S c) (hcc : c < 512) (mo : m + 23 ≤ oa) (R : zSt X (zFu (zRf X S m) oa (zJ X 1 g)) o S D W K h p q) (hp : p + 100 ≤ 500000 ∧ q + 10000 ≤ 7000000) (nxt : ∀ (S1 : zS) (h1 : zHp) (g1 : Nat → Int64) (D1 : Nat → Nat → Nat) (W1 : Nat → Nat → Int32) (K1 : Nat → Nat → Nat) (l5 l6 l7 : Option Value), sInv S1 (c + 1) → zSt X (zFu (zRf X S1 m) oa (zJ X 1 g1)) o S1 D1 W1 K1 h1 (p + 30) (q + 4000) → Z X ML_law (14, 532, fc, fd) h1 46 [some (.ref b), some (.ref o), some (.ref m), some (.ref oa), some (.int (nI (2 + 5 * (c + 1)))), l5, l6, l7] [.ref b, .int (nI (2 + 5 * (c + 1)))] Q) (o5 o6 o7 : Option Value) : Z X ML_law (14, 532, fc, fd) h 1191 [some (.ref b), some (.ref o), some (.ref m), some (.ref oa), some (.int (nI (2 + 5 * c))), o5, o6, o7] [] Q := by
  have hoa := zFu_at (zRf X S m) oa (zJ X 1 g)
  refine z_go 90 rfl ?_
  refine z_sld (2 + 5 * c + 1) hS rfl (x_i rfl (by omega)) (by omega) ?_
  refine z_go 90 rfl ?_
  refine z_sld (2 + 5 * c + 2) hS rfl (x_i rfl (by omega)) (by omega) ?_
  refine z_go 90 rfl ?_
  refine z_invV (k_text G I hcc R (by omega) (xs (2 + 5 * c + 1)) (xs (2 + 5 * c + 2))) KX10_text (zSt_0 R) (by decide) IX10_text VX10_text rfl rfl PX10_text rfl rfl rfl rfl (fun v9 h1 P9 => ?_) (fun E9 h1 P9 => ?_)
  rotate_left
  · obtain ⟨-, ⟨-, ev⟩ | ⟨e1, -⟩ | ⟨e1, -, -⟩⟩ := P9
    · cases ev
    · rw [show (sText S (xs (2 + 5 * c + 1)) (xs (2 + 5 * c + 2))).2 0 0 = 0 from sText_00 S (xs (2 + 5 * c + 1)) (xs (2 + 5 * c + 2))] at e1
      exact absurd e1 (by decide)
    · rw [show (sText S (xs (2 + 5 * c + 1)) (xs (2 + 5 * c + 2))).2 0 0 = 0 from sText_00 S (xs (2 + 5 * c + 1)) (xs (2 + 5 * c + 2))] at e1
      exact absurd e1 (by decide)
  obtain ⟨⟨D1, W1, K1, R1⟩, ⟨-, ev⟩ | ⟨-, ev⟩ | ⟨-, ev, -⟩⟩ := P9
  rotate_left
  · cases ev
  · cases ev
  cases ev
  refine z_go 90 rfl ?_
  refine z_sld (2 + 5 * c + 1) hS rfl (x_i rfl (by omega)) (by omega) ?_
  refine z_go 90 rfl ?_
  refine z_sld (2 + 5 * c + 2) hS rfl (x_i rfl (by omega)) (by omega) ?_
  refine z_go 90 rfl ?_
  refine z_cong (zr_id R1 mo).symm rfl rfl ?_
  refine z_cV zr_o (rc_text G I (xs (2 + 5 * c + 1)) (xs (2 + 5 * c + 2))) KX11_text IX11_text VX11_text rfl rfl rfl PX11_text rfl rfl rfl rfl ?_
  have R2 := zSt_ref R1 mo (sText S (xs (2 + 5 * c + 1)) (xs (2 + 5 * c + 2))).2
  have Iv := sText_inv I hcc (xs (2 + 5 * c + 1)) (xs (2 + 5 * c + 2))
  refine z_br rfl rfl (fun _ => ?_) (fun z9 => absurd rfl z9)
  refine z_go 90 rfl ?_
  rw [n_5]
  exact nxt _ _ _ _ _ _ _ _ _ Iv (zSt_le R2 (by omega) (by omega))
theorem lw_compare (G : zG X) (hS : zScr X b L xs) (hL : L ≤ 2562) (hc : 2 + 5 * c + 5 ≤ L) (I : sInv S c) (hcc : c < 512) (mo : m + 23 ≤ oa) (R : zSt X (zFu (zRf X S m) oa (zJ X 1 g)) o S D W K h p q) (hp : p + 100 ≤ 500000 ∧ q + 10000 ≤ 7000000) (nxt : ∀ (S1 : zS) (h1 : zHp) (g1 : Nat → Int64) (D1 : Nat → Nat → Nat) (W1 : Nat → Nat → Int32) (K1 : Nat → Nat → Nat) (l5 l6 l7 : Option Value), sInv S1 (c + 1) → zSt X (zFu (zRf X S1 m) oa (zJ X 1 g1)) o S1 D1 W1 K1 h1 (p + 30) (q + 4000) → Z X ML_law (14, 532, fc, fd) h1 46 [some (.ref b), some (.ref o), some (.ref m), some (.ref oa), some (.int (nI (2 + 5 * (c + 1)))), l5, l6, l7] [.ref b, .int (nI (2 + 5 * (c + 1)))] Q) (o5 o6 o7 : Option Value) : Z X ML_law (14, 532, fc, fd) h 1228 [some (.ref b), some (.ref o), some (.ref m), some (.ref oa), some (.int (nI (2 + 5 * c))), o5, o6, o7] [] Q := by
  have hoa := zFu_at (zRf X S m) oa (zJ X 1 g)
  refine z_go 90 rfl ?_
  refine z_sld (2 + 5 * c + 1) hS rfl (x_i rfl (by omega)) (by omega) ?_
  refine z_go 90 rfl ?_
  refine z_sld (2 + 5 * c + 2) hS rfl (x_i rfl (by omega)) (by omega) ?_
  refine z_go 90 rfl ?_
  refine z_sld (2 + 5 * c + 3) hS rfl (x_i rfl (by omega)) (by omega) ?_
  refine z_go 90 rfl ?_
  refine z_invS (kh_compare G I hcc R hp hoa (xs (2 + 5 * c + 1)) (xs (2 + 5 * c + 2)) (xs (2 + 5 * c + 3))) KL_compare SL_compare rfl rfl PL_compare rfl rfl rfl rfl (fun v9 h1 P9 => ?_) (fun E9 h1 P9 => by cases P9.1)
  obtain ⟨ev, g1, D1, W1, K1, R1, hv⟩ := P9
  cases ev
  rw [zFu_tw] at R1
  refine z_go 90 rfl ?_
  refine z_sld (2 + 5 * c + 1) hS rfl (x_i rfl (by omega)) (by omega) ?_
  refine z_go 90 rfl ?_
  refine z_sld (2 + 5 * c + 2) hS rfl (x_i rfl (by omega)) (by omega) ?_
  refine z_go 90 rfl ?_
  refine z_sld (2 + 5 * c + 3) hS rfl (x_i rfl (by omega)) (by omega) ?_
  refine z_go 90 rfl ?_
  refine z_cong (zr_id R1 mo).symm rfl rfl ?_
  refine z_cV zr_o (rc_comp G I (xs (2 + 5 * c + 1)) (xs (2 + 5 * c + 2)) (xs (2 + 5 * c + 3))) KX11_compare IX11_compare VX11_compare rfl rfl rfl PX11_compare rfl rfl rfl rfl ?_
  have R2 := zSt_ref R1 mo (sComp S (xs (2 + 5 * c + 1)) (xs (2 + 5 * c + 2)) (xs (2 + 5 * c + 3))).2
  have Iv := sComp_inv I hcc (xs (2 + 5 * c + 1)) (xs (2 + 5 * c + 2)) (xs (2 + 5 * c + 3))
  refine z_go 90 rfl ?_
  refine z_cV zr_o (rc_thrown G) KX11_thrown IX11_thrown VX11_thrown rfl rfl rfl PX11_thrown rfl rfl rfl rfl ?_
  refine z_go 90 rfl ?_
  refine z_br rfl rfl (fun _ => ?_) (fun z9 => absurd rfl z9)
  refine z_go 90 rfl ?_
  refine z_ite (p := (sComp S (xs (2 + 5 * c + 1)) (xs (2 + 5 * c + 2)) (xs (2 + 5 * c + 3))).2 0 0 = 0) (fun e9 => ?_) (fun e9 => ?_)
  · refine z_br rfl rfl (fun z9 => absurd e9 z9) (fun _ => ?_)
    refine z_go 90 rfl ?_
    refine z_lald 0 (R2.2.2.2.1 oa _ (zFu_at _ _ _)).1 rfl rfl (by decide) ?_
    rw [hv e9]
    refine z_go 90 rfl ?_
    refine z_br rfl rfl (fun _ => ?_) (fun z9 => absurd (lc_self _) z9)
    refine z_go 90 rfl ?_
    rw [n_5]
    exact nxt _ _ _ _ _ _ _ _ _ Iv R2
  · refine z_br rfl rfl (fun _ => ?_) (fun z9 => absurd z9 e9)
    refine z_go 90 rfl ?_
    rw [n_5]
    exact nxt _ _ _ _ _ _ _ _ _ Iv R2
theorem lw_lock (G : zG X) (hS : zScr X b L xs) (hL : L ≤ 2562) (hc : 2 + 5 * c + 5 ≤ L) (I : sInv S c) (hcc : c < 512) (mo : m + 23 ≤ oa) (R : zSt X (zFu (zRf X S m) oa (zJ X 1 g)) o S D W K h p q) (hp : p + 100 ≤ 500000 ∧ q + 10000 ≤ 7000000) (nxt : ∀ (S1 : zS) (h1 : zHp) (g1 : Nat → Int64) (D1 : Nat → Nat → Nat) (W1 : Nat → Nat → Int32) (K1 : Nat → Nat → Nat) (l5 l6 l7 : Option Value), sInv S1 (c + 1) → zSt X (zFu (zRf X S1 m) oa (zJ X 1 g1)) o S1 D1 W1 K1 h1 (p + 30) (q + 4000) → Z X ML_law (14, 532, fc, fd) h1 46 [some (.ref b), some (.ref o), some (.ref m), some (.ref oa), some (.int (nI (2 + 5 * (c + 1)))), l5, l6, l7] [.ref b, .int (nI (2 + 5 * (c + 1)))] Q) (o5 o6 o7 : Option Value) : Z X ML_law (14, 532, fc, fd) h 1308 [some (.ref b), some (.ref o), some (.ref m), some (.ref oa), some (.int (nI (2 + 5 * c))), o5, o6, o7] [] Q := by
  have hoa := zFu_at (zRf X S m) oa (zJ X 1 g)
  refine z_go 90 rfl ?_
  refine z_sld (2 + 5 * c + 1) hS rfl (x_i rfl (by omega)) (by omega) ?_
  refine z_go 90 rfl ?_
  refine z_sld (2 + 5 * c + 2) hS rfl (x_i rfl (by omega)) (by omega) ?_
  refine z_go 90 rfl ?_
  refine z_invS (kh_lock G I hcc R hp hoa (xs (2 + 5 * c + 1)) (xs (2 + 5 * c + 2))) KL_lock SL_lock rfl rfl PL_lock rfl rfl rfl rfl (fun v9 h1 P9 => ?_) (fun E9 h1 P9 => by cases P9.1)
  obtain ⟨ev, g1, D1, W1, K1, R1, hv⟩ := P9
  cases ev
  rw [zFu_tw] at R1
  refine z_go 90 rfl ?_
  refine z_sld (2 + 5 * c + 1) hS rfl (x_i rfl (by omega)) (by omega) ?_
  refine z_go 90 rfl ?_
  refine z_sld (2 + 5 * c + 2) hS rfl (x_i rfl (by omega)) (by omega) ?_
  refine z_go 90 rfl ?_
  refine z_cong (zr_id R1 mo).symm rfl rfl ?_
  refine z_cV zr_o (rc_lock G I (xs (2 + 5 * c + 1)) (xs (2 + 5 * c + 2))) KX11_lock IX11_lock VX11_lock rfl rfl rfl PX11_lock rfl rfl rfl rfl ?_
  have R2 := zSt_ref R1 mo (sChange S (xs (2 + 5 * c + 1)) (xs (2 + 5 * c + 2)) 0 247).2
  have Iv := sChange_inv I hcc (xs (2 + 5 * c + 1)) (xs (2 + 5 * c + 2)) 0 247 (Or.inr rfl)
  refine z_go 90 rfl ?_
  refine z_cV zr_o (rc_thrown G) KX11_thrown IX11_thrown VX11_thrown rfl rfl rfl PX11_thrown rfl rfl rfl rfl ?_
  refine z_go 90 rfl ?_
  refine z_br rfl rfl (fun _ => ?_) (fun z9 => absurd rfl z9)
  refine z_go 90 rfl ?_
  refine z_ite (p := (sChange S (xs (2 + 5 * c + 1)) (xs (2 + 5 * c + 2)) 0 247).2 0 0 = 0) (fun e9 => ?_) (fun e9 => ?_)
  · refine z_br rfl rfl (fun z9 => absurd e9 z9) (fun _ => ?_)
    refine z_go 90 rfl ?_
    refine z_lald 0 (R2.2.2.2.1 oa _ (zFu_at _ _ _)).1 rfl rfl (by decide) ?_
    rw [hv e9]
    refine z_go 90 rfl ?_
    refine z_br rfl rfl (fun _ => ?_) (fun z9 => absurd (lc_self _) z9)
    refine z_go 90 rfl ?_
    rw [n_5]
    exact nxt _ _ _ _ _ _ _ _ _ Iv R2
  · refine z_br rfl rfl (fun _ => ?_) (fun z9 => absurd z9 e9)
    refine z_go 90 rfl ?_
    rw [n_5]
    exact nxt _ _ _ _ _ _ _ _ _ Iv R2
theorem lw_unlock (G : zG X) (hS : zScr X b L xs) (hL : L ≤ 2562) (hc : 2 + 5 * c + 5 ≤ L) (I : sInv S c) (hcc : c < 512) (mo : m + 23 ≤ oa) (R : zSt X (zFu (zRf X S m) oa (zJ X 1 g)) o S D W K h p q) (hp : p + 100 ≤ 500000 ∧ q + 10000 ≤ 7000000) (nxt : ∀ (S1 : zS) (h1 : zHp) (g1 : Nat → Int64) (D1 : Nat → Nat → Nat) (W1 : Nat → Nat → Int32) (K1 : Nat → Nat → Nat) (l5 l6 l7 : Option Value), sInv S1 (c + 1) → zSt X (zFu (zRf X S1 m) oa (zJ X 1 g1)) o S1 D1 W1 K1 h1 (p + 30) (q + 4000) → Z X ML_law (14, 532, fc, fd) h1 46 [some (.ref b), some (.ref o), some (.ref m), some (.ref oa), some (.int (nI (2 + 5 * (c + 1)))), l5, l6, l7] [.ref b, .int (nI (2 + 5 * (c + 1)))] Q) (o5 o6 o7 : Option Value) : Z X ML_law (14, 532, fc, fd) h 1376 [some (.ref b), some (.ref o), some (.ref m), some (.ref oa), some (.int (nI (2 + 5 * c))), o5, o6, o7] [] Q := by
  have hoa := zFu_at (zRf X S m) oa (zJ X 1 g)
  refine z_go 90 rfl ?_
  refine z_sld (2 + 5 * c + 1) hS rfl (x_i rfl (by omega)) (by omega) ?_
  refine z_go 90 rfl ?_
  refine z_sld (2 + 5 * c + 2) hS rfl (x_i rfl (by omega)) (by omega) ?_
  refine z_go 90 rfl ?_
  refine z_invS (kh_unlock G I hcc R hp hoa (xs (2 + 5 * c + 1)) (xs (2 + 5 * c + 2))) KL_unlock SL_unlock rfl rfl PL_unlock rfl rfl rfl rfl (fun v9 h1 P9 => ?_) (fun E9 h1 P9 => by cases P9.1)
  obtain ⟨ev, g1, D1, W1, K1, R1, hv⟩ := P9
  cases ev
  rw [zFu_tw] at R1
  refine z_go 90 rfl ?_
  refine z_sld (2 + 5 * c + 1) hS rfl (x_i rfl (by omega)) (by omega) ?_
  refine z_go 90 rfl ?_
  refine z_sld (2 + 5 * c + 2) hS rfl (x_i rfl (by omega)) (by omega) ?_
  refine z_go 90 rfl ?_
  refine z_cong (zr_id R1 mo).symm rfl rfl ?_
  refine z_cV zr_o (rc_unlock G I (xs (2 + 5 * c + 1)) (xs (2 + 5 * c + 2))) KX11_unlock IX11_unlock VX11_unlock rfl rfl rfl PX11_unlock rfl rfl rfl rfl ?_
  have R2 := zSt_ref R1 mo (sChange S (xs (2 + 5 * c + 1)) (xs (2 + 5 * c + 2)) 247 0).2
  have Iv := sChange_inv I hcc (xs (2 + 5 * c + 1)) (xs (2 + 5 * c + 2)) 247 0 (Or.inl rfl)
  refine z_go 90 rfl ?_
  refine z_cV zr_o (rc_thrown G) KX11_thrown IX11_thrown VX11_thrown rfl rfl rfl PX11_thrown rfl rfl rfl rfl ?_
  refine z_go 90 rfl ?_
  refine z_br rfl rfl (fun _ => ?_) (fun z9 => absurd rfl z9)
  refine z_go 90 rfl ?_
  refine z_ite (p := (sChange S (xs (2 + 5 * c + 1)) (xs (2 + 5 * c + 2)) 247 0).2 0 0 = 0) (fun e9 => ?_) (fun e9 => ?_)
  · refine z_br rfl rfl (fun z9 => absurd e9 z9) (fun _ => ?_)
    refine z_go 90 rfl ?_
    refine z_lald 0 (R2.2.2.2.1 oa _ (zFu_at _ _ _)).1 rfl rfl (by decide) ?_
    rw [hv e9]
    refine z_go 90 rfl ?_
    refine z_br rfl rfl (fun _ => ?_) (fun z9 => absurd (lc_self _) z9)
    refine z_go 90 rfl ?_
    rw [n_5]
    exact nxt _ _ _ _ _ _ _ _ _ Iv R2
  · refine z_br rfl rfl (fun _ => ?_) (fun z9 => absurd z9 e9)
    refine z_go 90 rfl ?_
    rw [n_5]
    exact nxt _ _ _ _ _ _ _ _ _ Iv R2
theorem lw_report (G : zG X) (hS : zScr X b L xs) (hL : L ≤ 2562) (hc : 2 + 5 * c + 5 ≤ L) (I : sInv S c) (hcc : c < 512) (mo : m + 23 ≤ oa) (R : zSt X (zFu (zRf X S m) oa (zJ X 1 g)) o S D W K h p q) (hp : p + 100 ≤ 500000 ∧ q + 10000 ≤ 7000000) (nxt : ∀ (S1 : zS) (h1 : zHp) (g1 : Nat → Int64) (D1 : Nat → Nat → Nat) (W1 : Nat → Nat → Int32) (K1 : Nat → Nat → Nat) (l5 l6 l7 : Option Value), sInv S1 (c + 1) → zSt X (zFu (zRf X S1 m) oa (zJ X 1 g1)) o S1 D1 W1 K1 h1 (p + 30) (q + 4000) → Z X ML_law (14, 532, fc, fd) h1 46 [some (.ref b), some (.ref o), some (.ref m), some (.ref oa), some (.int (nI (2 + 5 * (c + 1)))), l5, l6, l7] [.ref b, .int (nI (2 + 5 * (c + 1)))] Q) (o5 o6 o7 : Option Value) : Z X ML_law (14, 532, fc, fd) h 1444 [some (.ref b), some (.ref o), some (.ref m), some (.ref oa), some (.int (nI (2 + 5 * c))), o5, o6, o7] [] Q := by
  have hoa := zFu_at (zRf X S m) oa (zJ X 1 g)
  refine z_go 90 rfl ?_
  refine z_sld (2 + 5 * c + 1) hS rfl (x_i rfl (by omega)) (by omega) ?_
  refine z_go 90 rfl ?_
  refine z_sld (2 + 5 * c + 2) hS rfl (x_i rfl (by omega)) (by omega) ?_
  refine z_go 90 rfl ?_
  refine z_invS (kh_report G I hcc R hp hoa (xs (2 + 5 * c + 1)) (xs (2 + 5 * c + 2))) KL_report SL_report rfl rfl PL_report rfl rfl rfl rfl (fun v9 h1 P9 => ?_) (fun E9 h1 P9 => by cases P9.1)
  obtain ⟨ev, g1, D1, W1, K1, R1, hv⟩ := P9
  cases ev
  rw [zFu_tw] at R1
  refine z_go 90 rfl ?_
  refine z_sld (2 + 5 * c + 1) hS rfl (x_i rfl (by omega)) (by omega) ?_
  refine z_go 90 rfl ?_
  refine z_sld (2 + 5 * c + 2) hS rfl (x_i rfl (by omega)) (by omega) ?_
  refine z_go 90 rfl ?_
  refine z_cong (zr_id R1 mo).symm rfl rfl ?_
  refine z_cV zr_o (rc_report G I (xs (2 + 5 * c + 1)) (xs (2 + 5 * c + 2))) KX11_report IX11_report VX11_report rfl rfl rfl PX11_report rfl rfl rfl rfl ?_
  have R2 := zSt_ref R1 mo (sReport S (xs (2 + 5 * c + 1)) (xs (2 + 5 * c + 2))).2
  have Iv := sReport_inv I hcc (xs (2 + 5 * c + 1)) (xs (2 + 5 * c + 2))
  refine z_go 90 rfl ?_
  refine z_cV zr_o (rc_thrown G) KX11_thrown IX11_thrown VX11_thrown rfl rfl rfl PX11_thrown rfl rfl rfl rfl ?_
  refine z_go 90 rfl ?_
  refine z_br rfl rfl (fun _ => ?_) (fun z9 => absurd rfl z9)
  refine z_go 90 rfl ?_
  refine z_ite (p := (sReport S (xs (2 + 5 * c + 1)) (xs (2 + 5 * c + 2))).2 0 0 = 0) (fun e9 => ?_) (fun e9 => ?_)
  · refine z_br rfl rfl (fun z9 => absurd e9 z9) (fun _ => ?_)
    refine z_go 90 rfl ?_
    refine z_lald 0 (R2.2.2.2.1 oa _ (zFu_at _ _ _)).1 rfl rfl (by decide) ?_
    rw [hv e9]
    refine z_go 90 rfl ?_
    refine z_br rfl rfl (fun _ => ?_) (fun z9 => absurd (lc_self _) z9)
    refine z_go 90 rfl ?_
    rw [n_5]
    exact nxt _ _ _ _ _ _ _ _ _ Iv R2
  · refine z_br rfl rfl (fun _ => ?_) (fun z9 => absurd z9 e9)
    refine z_go 90 rfl ?_
    rw [n_5]
    exact nxt _ _ _ _ _ _ _ _ _ Iv R2
theorem lw_block (G : zG X) (hS : zScr X b L xs) (hL : L ≤ 2562) (hc : 2 + 5 * c + 5 ≤ L) (I : sInv S c) (hcc : c < 512) (mo : m + 23 ≤ oa) (R : zSt X (zFu (zRf X S m) oa (zJ X 1 g)) o S D W K h p q) (hp : p + 100 ≤ 500000 ∧ q + 10000 ≤ 7000000) (nxt : ∀ (S1 : zS) (h1 : zHp) (g1 : Nat → Int64) (D1 : Nat → Nat → Nat) (W1 : Nat → Nat → Int32) (K1 : Nat → Nat → Nat) (l5 l6 l7 : Option Value), sInv S1 (c + 1) → zSt X (zFu (zRf X S1 m) oa (zJ X 1 g1)) o S1 D1 W1 K1 h1 (p + 30) (q + 4000) → Z X ML_law (14, 532, fc, fd) h1 46 [some (.ref b), some (.ref o), some (.ref m), some (.ref oa), some (.int (nI (2 + 5 * (c + 1)))), l5, l6, l7] [.ref b, .int (nI (2 + 5 * (c + 1)))] Q) (o5 o6 o7 : Option Value) : Z X ML_law (14, 532, fc, fd) h 1512 [some (.ref b), some (.ref o), some (.ref m), some (.ref oa), some (.int (nI (2 + 5 * c))), o5, o6, o7] [] Q := by
  have hoa := zFu_at (zRf X S m) oa (zJ X 1 g)
  refine z_go 90 rfl ?_
  refine z_sld (2 + 5 * c + 1) hS rfl (x_i rfl (by omega)) (by omega) ?_
  refine z_go 90 rfl ?_
  refine z_sld (2 + 5 * c + 2) hS rfl (x_i rfl (by omega)) (by omega) ?_
  refine z_go 90 rfl ?_
  refine z_invS (kh_block G I hcc R hp hoa (xs (2 + 5 * c + 1)) (xs (2 + 5 * c + 2))) KL_block SL_block rfl rfl PL_block rfl rfl rfl rfl (fun v9 h1 P9 => ?_) (fun E9 h1 P9 => by cases P9.1)
  obtain ⟨ev, g1, D1, W1, K1, R1, hv⟩ := P9
  cases ev
  rw [zFu_tw] at R1
  refine z_go 90 rfl ?_
  refine z_sld (2 + 5 * c + 1) hS rfl (x_i rfl (by omega)) (by omega) ?_
  refine z_go 90 rfl ?_
  refine z_sld (2 + 5 * c + 2) hS rfl (x_i rfl (by omega)) (by omega) ?_
  refine z_go 90 rfl ?_
  refine z_cong (zr_id R1 mo).symm rfl rfl ?_
  refine z_cV zr_o (rc_block G I (xs (2 + 5 * c + 1)) (xs (2 + 5 * c + 2))) KX11_block IX11_block VX11_block rfl rfl rfl PX11_block rfl rfl rfl rfl ?_
  have R2 := zSt_ref R1 mo (sBlock S (xs (2 + 5 * c + 1)) (xs (2 + 5 * c + 2))).2
  have Iv := sBlock_inv I hcc (xs (2 + 5 * c + 1)) (xs (2 + 5 * c + 2))
  refine z_go 90 rfl ?_
  refine z_cV zr_o (rc_thrown G) KX11_thrown IX11_thrown VX11_thrown rfl rfl rfl PX11_thrown rfl rfl rfl rfl ?_
  refine z_go 90 rfl ?_
  refine z_br rfl rfl (fun _ => ?_) (fun z9 => absurd rfl z9)
  refine z_go 90 rfl ?_
  refine z_ite (p := (sBlock S (xs (2 + 5 * c + 1)) (xs (2 + 5 * c + 2))).2 0 0 = 0) (fun e9 => ?_) (fun e9 => ?_)
  · refine z_br rfl rfl (fun z9 => absurd e9 z9) (fun _ => ?_)
    refine z_go 90 rfl ?_
    refine z_lald 0 (R2.2.2.2.1 oa _ (zFu_at _ _ _)).1 rfl rfl (by decide) ?_
    rw [hv e9]
    refine z_go 90 rfl ?_
    refine z_br rfl rfl (fun _ => ?_) (fun z9 => absurd (lc_self _) z9)
    refine z_go 90 rfl ?_
    rw [n_5]
    exact nxt _ _ _ _ _ _ _ _ _ Iv R2
  · refine z_br rfl rfl (fun _ => ?_) (fun z9 => absurd z9 e9)
    refine z_go 90 rfl ?_
    rw [n_5]
    exact nxt _ _ _ _ _ _ _ _ _ Iv R2
theorem lw_shadow (G : zG X) (hS : zScr X b L xs) (hL : L ≤ 2562) (hc : 2 + 5 * c + 5 ≤ L) (I : sInv S c) (hcc : c < 512) (mo : m + 23 ≤ oa) (R : zSt X (zFu (zRf X S m) oa (zJ X 1 g)) o S D W K h p q) (hp : p + 100 ≤ 500000 ∧ q + 10000 ≤ 7000000) (nxt : ∀ (S1 : zS) (h1 : zHp) (g1 : Nat → Int64) (D1 : Nat → Nat → Nat) (W1 : Nat → Nat → Int32) (K1 : Nat → Nat → Nat) (l5 l6 l7 : Option Value), sInv S1 (c + 1) → zSt X (zFu (zRf X S1 m) oa (zJ X 1 g1)) o S1 D1 W1 K1 h1 (p + 30) (q + 4000) → Z X ML_law (14, 532, fc, fd) h1 46 [some (.ref b), some (.ref o), some (.ref m), some (.ref oa), some (.int (nI (2 + 5 * (c + 1)))), l5, l6, l7] [.ref b, .int (nI (2 + 5 * (c + 1)))] Q) (o5 o6 o7 : Option Value) : Z X ML_law (14, 532, fc, fd) h 1580 [some (.ref b), some (.ref o), some (.ref m), some (.ref oa), some (.int (nI (2 + 5 * c))), o5, o6, o7] [] Q := by
  have hoa := zFu_at (zRf X S m) oa (zJ X 1 g)
  refine z_go 90 rfl ?_
  refine z_sld (2 + 5 * c + 1) hS rfl (x_i rfl (by omega)) (by omega) ?_
  refine z_go 90 rfl ?_
  refine z_invS (kh_shadow G I hcc R hp hoa (xs (2 + 5 * c + 1))) KL_shadow SL_shadow rfl rfl PL_shadow rfl rfl rfl rfl (fun v9 h1 P9 => ?_) (fun E9 h1 P9 => by cases P9.1)
  obtain ⟨ev, g1, D1, W1, K1, R1, hv⟩ := P9
  cases ev
  rw [zFu_tw] at R1
  refine z_go 90 rfl ?_
  refine z_sld (2 + 5 * c + 1) hS rfl (x_i rfl (by omega)) (by omega) ?_
  refine z_go 90 rfl ?_
  refine z_cong (zr_id R1 mo).symm rfl rfl ?_
  refine z_cV zr_o (rc_shadow G I (xs (2 + 5 * c + 1))) KX11_shadow IX11_shadow VX11_shadow rfl rfl rfl PX11_shadow rfl rfl rfl rfl ?_
  have R2 := zSt_ref R1 mo (sShadow S (xs (2 + 5 * c + 1))).2
  have Iv := sShadow_inv I hcc (xs (2 + 5 * c + 1))
  refine z_go 90 rfl ?_
  refine z_cV zr_o (rc_thrown G) KX11_thrown IX11_thrown VX11_thrown rfl rfl rfl PX11_thrown rfl rfl rfl rfl ?_
  refine z_go 90 rfl ?_
  refine z_br rfl rfl (fun _ => ?_) (fun z9 => absurd rfl z9)
  refine z_go 90 rfl ?_
  refine z_ite (p := (sShadow S (xs (2 + 5 * c + 1))).2 0 0 = 0) (fun e9 => ?_) (fun e9 => ?_)
  · refine z_br rfl rfl (fun z9 => absurd e9 z9) (fun _ => ?_)
    refine z_go 90 rfl ?_
    refine z_lald 0 (R2.2.2.2.1 oa _ (zFu_at _ _ _)).1 rfl rfl (by decide) ?_
    rw [hv e9]
    refine z_go 90 rfl ?_
    refine z_br rfl rfl (fun _ => ?_) (fun z9 => absurd (lc_self _) z9)
    refine z_go 90 rfl ?_
    rw [n_5]
    exact nxt _ _ _ _ _ _ _ _ _ Iv R2
  · refine z_br rfl rfl (fun _ => ?_) (fun z9 => absurd z9 e9)
    refine z_go 90 rfl ?_
    rw [n_5]
    exact nxt _ _ _ _ _ _ _ _ _ Iv R2
theorem lw_peek (G : zG X) (hS : zScr X b L xs) (hL : L ≤ 2562) (hc : 2 + 5 * c + 5 ≤ L) (I : sInv S c) (hcc : c < 512) (mo : m + 23 ≤ oa) (R : zSt X (zFu (zRf X S m) oa (zJ X 1 g)) o S D W K h p q) (hp : p + 100 ≤ 500000 ∧ q + 10000 ≤ 7000000) (nxt : ∀ (S1 : zS) (h1 : zHp) (g1 : Nat → Int64) (D1 : Nat → Nat → Nat) (W1 : Nat → Nat → Int32) (K1 : Nat → Nat → Nat) (l5 l6 l7 : Option Value), sInv S1 (c + 1) → zSt X (zFu (zRf X S1 m) oa (zJ X 1 g1)) o S1 D1 W1 K1 h1 (p + 30) (q + 4000) → Z X ML_law (14, 532, fc, fd) h1 46 [some (.ref b), some (.ref o), some (.ref m), some (.ref oa), some (.int (nI (2 + 5 * (c + 1)))), l5, l6, l7] [.ref b, .int (nI (2 + 5 * (c + 1)))] Q) (o5 o6 o7 : Option Value) : Z X ML_law (14, 532, fc, fd) h 1636 [some (.ref b), some (.ref o), some (.ref m), some (.ref oa), some (.int (nI (2 + 5 * c))), o5, o6, o7] [] Q := by
  have hoa := zFu_at (zRf X S m) oa (zJ X 1 g)
  refine z_go 90 rfl ?_
  refine z_sld (2 + 5 * c + 1) hS rfl (x_i rfl (by omega)) (by omega) ?_
  refine z_go 90 rfl ?_
  refine z_invS (kh_peek G I hcc R hp hoa (xs (2 + 5 * c + 1))) KL_peek SL_peek rfl rfl PL_peek rfl rfl rfl rfl (fun v9 h1 P9 => ?_) (fun E9 h1 P9 => by cases P9.1)
  obtain ⟨ev, g1, D1, W1, K1, R1, hv⟩ := P9
  cases ev
  rw [zFu_tw] at R1
  refine z_go 90 rfl ?_
  refine z_sld (2 + 5 * c + 1) hS rfl (x_i rfl (by omega)) (by omega) ?_
  refine z_go 90 rfl ?_
  refine z_cong (zr_id R1 mo).symm rfl rfl ?_
  refine z_cV zr_o (rc_peek G I (xs (2 + 5 * c + 1))) KX11_peek IX11_peek VX11_peek rfl rfl rfl PX11_peek rfl rfl rfl rfl ?_
  have R2 := zSt_ref R1 mo (sPeek S (xs (2 + 5 * c + 1))).2
  have Iv := sPeek_inv I hcc (xs (2 + 5 * c + 1))
  refine z_go 90 rfl ?_
  refine z_cV zr_o (rc_thrown G) KX11_thrown IX11_thrown VX11_thrown rfl rfl rfl PX11_thrown rfl rfl rfl rfl ?_
  refine z_go 90 rfl ?_
  refine z_br rfl rfl (fun _ => ?_) (fun z9 => absurd rfl z9)
  refine z_go 90 rfl ?_
  refine z_ite (p := (sPeek S (xs (2 + 5 * c + 1))).2 0 0 = 0) (fun e9 => ?_) (fun e9 => ?_)
  · refine z_br rfl rfl (fun z9 => absurd e9 z9) (fun _ => ?_)
    refine z_go 90 rfl ?_
    refine z_lald 0 (R2.2.2.2.1 oa _ (zFu_at _ _ _)).1 rfl rfl (by decide) ?_
    rw [hv e9]
    refine z_go 90 rfl ?_
    refine z_br rfl rfl (fun _ => ?_) (fun z9 => absurd (lc_self _) z9)
    refine z_go 90 rfl ?_
    rw [n_5]
    exact nxt _ _ _ _ _ _ _ _ _ Iv R2
  · refine z_br rfl rfl (fun _ => ?_) (fun z9 => absurd z9 e9)
    refine z_go 90 rfl ?_
    rw [n_5]
    exact nxt _ _ _ _ _ _ _ _ _ Iv R2
theorem lw_held (G : zG X) (hS : zScr X b L xs) (hL : L ≤ 2562) (hc : 2 + 5 * c + 5 ≤ L) (I : sInv S c) (hcc : c < 512) (mo : m + 23 ≤ oa) (R : zSt X (zFu (zRf X S m) oa (zJ X 1 g)) o S D W K h p q) (hp : p + 100 ≤ 500000 ∧ q + 10000 ≤ 7000000) (nxt : ∀ (S1 : zS) (h1 : zHp) (g1 : Nat → Int64) (D1 : Nat → Nat → Nat) (W1 : Nat → Nat → Int32) (K1 : Nat → Nat → Nat) (l5 l6 l7 : Option Value), sInv S1 (c + 1) → zSt X (zFu (zRf X S1 m) oa (zJ X 1 g1)) o S1 D1 W1 K1 h1 (p + 30) (q + 4000) → Z X ML_law (14, 532, fc, fd) h1 46 [some (.ref b), some (.ref o), some (.ref m), some (.ref oa), some (.int (nI (2 + 5 * (c + 1)))), l5, l6, l7] [.ref b, .int (nI (2 + 5 * (c + 1)))] Q) (o5 o6 o7 : Option Value) : Z X ML_law (14, 532, fc, fd) h 1692 [some (.ref b), some (.ref o), some (.ref m), some (.ref oa), some (.int (nI (2 + 5 * c))), o5, o6, o7] [] Q := by
  have hoa := zFu_at (zRf X S m) oa (zJ X 1 g)
  refine z_go 90 rfl ?_
  refine z_sld (2 + 5 * c + 1) hS rfl (x_i rfl (by omega)) (by omega) ?_
  refine z_go 90 rfl ?_
  refine z_invS (kh_held G I hcc R hp hoa (xs (2 + 5 * c + 1))) KL_held SL_held rfl rfl PL_held rfl rfl rfl rfl (fun v9 h1 P9 => ?_) (fun E9 h1 P9 => by cases P9.1)
  obtain ⟨ev, g1, D1, W1, K1, R1, hv⟩ := P9
  cases ev
  rw [zFu_tw] at R1
  refine z_go 90 rfl ?_
  refine z_sld (2 + 5 * c + 1) hS rfl (x_i rfl (by omega)) (by omega) ?_
  refine z_go 90 rfl ?_
  refine z_cong (zr_id R1 mo).symm rfl rfl ?_
  refine z_cV zr_o (rc_held G I (xs (2 + 5 * c + 1))) KX11_held IX11_held VX11_held rfl rfl rfl PX11_held rfl rfl rfl rfl ?_
  have R2 := zSt_ref R1 mo (sHeld S (xs (2 + 5 * c + 1))).2
  have Iv := sHeld_inv I hcc (xs (2 + 5 * c + 1))
  refine z_go 90 rfl ?_
  refine z_cV zr_o (rc_thrown G) KX11_thrown IX11_thrown VX11_thrown rfl rfl rfl PX11_thrown rfl rfl rfl rfl ?_
  refine z_go 90 rfl ?_
  refine z_br rfl rfl (fun _ => ?_) (fun z9 => absurd rfl z9)
  refine z_go 90 rfl ?_
  refine z_ite (p := (sHeld S (xs (2 + 5 * c + 1))).2 0 0 = 0) (fun e9 => ?_) (fun e9 => ?_)
  · refine z_br rfl rfl (fun z9 => absurd e9 z9) (fun _ => ?_)
    refine z_go 90 rfl ?_
    refine z_lald 0 (R2.2.2.2.1 oa _ (zFu_at _ _ _)).1 rfl rfl (by decide) ?_
    rw [hv e9]
    refine z_go 90 rfl ?_
    refine z_br rfl rfl (fun _ => ?_) (fun z9 => absurd (lc_self _) z9)
    refine z_go 90 rfl ?_
    rw [n_5]
    exact nxt _ _ _ _ _ _ _ _ _ Iv R2
  · refine z_br rfl rfl (fun _ => ?_) (fun z9 => absurd z9 e9)
    refine z_go 90 rfl ?_
    rw [n_5]
    exact nxt _ _ _ _ _ _ _ _ _ Iv R2
theorem lw_lost (G : zG X) (hS : zScr X b L xs) (hL : L ≤ 2562) (hc : 2 + 5 * c + 5 ≤ L) (I : sInv S c) (hcc : c < 512) (mo : m + 23 ≤ oa) (R : zSt X (zFu (zRf X S m) oa (zJ X 1 g)) o S D W K h p q) (hp : p + 100 ≤ 500000 ∧ q + 10000 ≤ 7000000) (nxt : ∀ (S1 : zS) (h1 : zHp) (g1 : Nat → Int64) (D1 : Nat → Nat → Nat) (W1 : Nat → Nat → Int32) (K1 : Nat → Nat → Nat) (l5 l6 l7 : Option Value), sInv S1 (c + 1) → zSt X (zFu (zRf X S1 m) oa (zJ X 1 g1)) o S1 D1 W1 K1 h1 (p + 30) (q + 4000) → Z X ML_law (14, 532, fc, fd) h1 46 [some (.ref b), some (.ref o), some (.ref m), some (.ref oa), some (.int (nI (2 + 5 * (c + 1)))), l5, l6, l7] [.ref b, .int (nI (2 + 5 * (c + 1)))] Q) (o5 o6 o7 : Option Value) : Z X ML_law (14, 532, fc, fd) h 1748 [some (.ref b), some (.ref o), some (.ref m), some (.ref oa), some (.int (nI (2 + 5 * c))), o5, o6, o7] [] Q := by
  have hoa := zFu_at (zRf X S m) oa (zJ X 1 g)
  by_cases hx : xs (2 + 5 * c + 2) = 0
  · refine z_go 90 rfl ?_
    refine z_sld (2 + 5 * c + 1) hS rfl (x_i rfl (by omega)) (by omega) ?_
    refine z_go 90 rfl ?_
    refine z_sld (2 + 5 * c + 2) hS rfl (x_i rfl (by omega)) (by omega) ?_
    refine z_br rfl rfl (fun _ => ?_) (fun z9 => absurd hx z9)
    refine z_go 90 rfl ?_
    refine z_invV (k_lost G I hcc R (by omega) (xs (2 + 5 * c + 1)) 0 (Or.inl rfl)) KX10_lost (zSt_0 R) (by decide) IX10_lost VX10_lost rfl rfl PX10_lost rfl rfl rfl rfl (fun v9 h1 P9 => ?_) (fun E9 h1 P9 => ?_)
    rotate_left
    · obtain ⟨-, ⟨-, ev⟩ | ⟨e1, -⟩ | ⟨e1, -, -⟩⟩ := P9
      · cases ev
      · rw [show (sLostC S (xs (2 + 5 * c + 1)) 0).2 0 0 = 0 from rfl] at e1
        exact absurd e1 (by decide)
      · rw [show (sLostC S (xs (2 + 5 * c + 1)) 0).2 0 0 = 0 from rfl] at e1
        exact absurd e1 (by decide)
    obtain ⟨⟨D1, W1, K1, R1⟩, ⟨-, ev⟩ | ⟨-, ev⟩ | ⟨-, ev, -⟩⟩ := P9
    rotate_left
    · cases ev
    · cases ev
    cases ev
    refine z_go 90 rfl ?_
    refine z_sld (2 + 5 * c + 1) hS rfl (x_i rfl (by omega)) (by omega) ?_
    refine z_go 90 rfl ?_
    refine z_sld (2 + 5 * c + 2) hS rfl (x_i rfl (by omega)) (by omega) ?_
    refine z_br rfl rfl (fun _ => ?_) (fun z9 => absurd hx z9)
    refine z_go 90 rfl ?_
    refine z_cong (zr_id R1 mo).symm rfl rfl ?_
    refine z_cV zr_o (rc_lost G I (xs (2 + 5 * c + 1)) 0) KX11_lost IX11_lost VX11_lost rfl rfl rfl PX11_lost rfl rfl rfl rfl ?_
    have R2 := zSt_ref R1 mo (sLostC S (xs (2 + 5 * c + 1)) 0).2
    have Iv := sLostC_inv I hcc (xs (2 + 5 * c + 1)) 0
    refine z_br rfl rfl (fun _ => ?_) (fun z9 => absurd rfl z9)
    refine z_go 90 rfl ?_
    rw [n_5]
    exact nxt _ _ _ _ _ _ _ _ _ Iv (zSt_le R2 (by omega) (by omega))
  · refine z_go 90 rfl ?_
    refine z_sld (2 + 5 * c + 1) hS rfl (x_i rfl (by omega)) (by omega) ?_
    refine z_go 90 rfl ?_
    refine z_sld (2 + 5 * c + 2) hS rfl (x_i rfl (by omega)) (by omega) ?_
    refine z_br rfl rfl (fun z9 => absurd z9 hx) (fun _ => ?_)
    refine z_go 90 rfl ?_
    refine z_invV (k_lost G I hcc R (by omega) (xs (2 + 5 * c + 1)) 1 (Or.inr rfl)) KX10_lost (zSt_0 R) (by decide) IX10_lost VX10_lost rfl rfl PX10_lost rfl rfl rfl rfl (fun v9 h1 P9 => ?_) (fun E9 h1 P9 => ?_)
    rotate_left
    · obtain ⟨-, ⟨-, ev⟩ | ⟨e1, -⟩ | ⟨e1, -, -⟩⟩ := P9
      · cases ev
      · rw [show (sLostC S (xs (2 + 5 * c + 1)) 1).2 0 0 = 0 from rfl] at e1
        exact absurd e1 (by decide)
      · rw [show (sLostC S (xs (2 + 5 * c + 1)) 1).2 0 0 = 0 from rfl] at e1
        exact absurd e1 (by decide)
    obtain ⟨⟨D1, W1, K1, R1⟩, ⟨-, ev⟩ | ⟨-, ev⟩ | ⟨-, ev, -⟩⟩ := P9
    rotate_left
    · cases ev
    · cases ev
    cases ev
    refine z_go 90 rfl ?_
    refine z_sld (2 + 5 * c + 1) hS rfl (x_i rfl (by omega)) (by omega) ?_
    refine z_go 90 rfl ?_
    refine z_sld (2 + 5 * c + 2) hS rfl (x_i rfl (by omega)) (by omega) ?_
    refine z_br rfl rfl (fun z9 => absurd z9 hx) (fun _ => ?_)
    refine z_go 90 rfl ?_
    refine z_cong (zr_id R1 mo).symm rfl rfl ?_
    refine z_cV zr_o (rc_lost G I (xs (2 + 5 * c + 1)) 1) KX11_lost IX11_lost VX11_lost rfl rfl rfl PX11_lost rfl rfl rfl rfl ?_
    have R2 := zSt_ref R1 mo (sLostC S (xs (2 + 5 * c + 1)) 1).2
    have Iv := sLostC_inv I hcc (xs (2 + 5 * c + 1)) 1
    refine z_br rfl rfl (fun _ => ?_) (fun z9 => absurd rfl z9)
    refine z_go 90 rfl ?_
    rw [n_5]
    exact nxt _ _ _ _ _ _ _ _ _ Iv (zSt_le R2 (by omega) (by omega))
theorem lw_told (G : zG X) (hS : zScr X b L xs) (hL : L ≤ 2562) (hc : 2 + 5 * c + 5 ≤ L) (I : sInv S c) (hcc : c < 512) (mo : m + 23 ≤ oa) (R : zSt X (zFu (zRf X S m) oa (zJ X 1 g)) o S D W K h p q) (hp : p + 100 ≤ 500000 ∧ q + 10000 ≤ 7000000) (nxt : ∀ (S1 : zS) (h1 : zHp) (g1 : Nat → Int64) (D1 : Nat → Nat → Nat) (W1 : Nat → Nat → Int32) (K1 : Nat → Nat → Nat) (l5 l6 l7 : Option Value), sInv S1 (c + 1) → zSt X (zFu (zRf X S1 m) oa (zJ X 1 g1)) o S1 D1 W1 K1 h1 (p + 30) (q + 4000) → Z X ML_law (14, 532, fc, fd) h1 46 [some (.ref b), some (.ref o), some (.ref m), some (.ref oa), some (.int (nI (2 + 5 * (c + 1)))), l5, l6, l7] [.ref b, .int (nI (2 + 5 * (c + 1)))] Q) (o5 o6 o7 : Option Value) : Z X ML_law (14, 532, fc, fd) h 1801 [some (.ref b), some (.ref o), some (.ref m), some (.ref oa), some (.int (nI (2 + 5 * c))), o5, o6, o7] [] Q := by
  have hoa := zFu_at (zRf X S m) oa (zJ X 1 g)
  refine z_go 90 rfl ?_
  refine z_sld (2 + 5 * c + 1) hS rfl (x_i rfl (by omega)) (by omega) ?_
  refine z_go 90 rfl ?_
  refine z_invS (kh_told G I hcc R hp hoa (xs (2 + 5 * c + 1))) KL_told SL_told rfl rfl PL_told rfl rfl rfl rfl (fun v9 h1 P9 => ?_) (fun E9 h1 P9 => by cases P9.1)
  obtain ⟨ev, g1, D1, W1, K1, R1, hv⟩ := P9
  cases ev
  rw [zFu_tw] at R1
  refine z_go 90 rfl ?_
  refine z_sld (2 + 5 * c + 1) hS rfl (x_i rfl (by omega)) (by omega) ?_
  refine z_go 90 rfl ?_
  refine z_cong (zr_id R1 mo).symm rfl rfl ?_
  refine z_cV zr_o (rc_told G I (xs (2 + 5 * c + 1))) KX11_told IX11_told VX11_told rfl rfl rfl PX11_told rfl rfl rfl rfl ?_
  have R2 := zSt_ref R1 mo (sTold S (xs (2 + 5 * c + 1))).2
  have Iv := sTold_inv I hcc (xs (2 + 5 * c + 1))
  refine z_go 90 rfl ?_
  refine z_cV zr_o (rc_thrown G) KX11_thrown IX11_thrown VX11_thrown rfl rfl rfl PX11_thrown rfl rfl rfl rfl ?_
  refine z_go 90 rfl ?_
  refine z_br rfl rfl (fun _ => ?_) (fun z9 => absurd rfl z9)
  refine z_go 90 rfl ?_
  refine z_ite (p := (sTold S (xs (2 + 5 * c + 1))).2 0 0 = 0) (fun e9 => ?_) (fun e9 => ?_)
  · refine z_br rfl rfl (fun z9 => absurd e9 z9) (fun _ => ?_)
    refine z_go 90 rfl ?_
    refine z_lald 0 (R2.2.2.2.1 oa _ (zFu_at _ _ _)).1 rfl rfl (by decide) ?_
    rw [hv e9]
    refine z_go 90 rfl ?_
    refine z_br rfl rfl (fun _ => ?_) (fun z9 => absurd (lc_self _) z9)
    refine z_go 90 rfl ?_
    rw [n_5]
    exact nxt _ _ _ _ _ _ _ _ _ Iv R2
  · refine z_br rfl rfl (fun _ => ?_) (fun z9 => absurd z9 e9)
    refine z_go 90 rfl ?_
    rw [n_5]
    exact nxt _ _ _ _ _ _ _ _ _ Iv R2
end ZLW
