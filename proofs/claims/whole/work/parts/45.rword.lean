/-! words -/
def lB (x : Int64) : Nat := x.toBitVec.toNat
theorem lB_toInt {x : Int64} (h : lB x < 9223372036854775808) : x.toInt = (lB x : Int) := by
  show x.toBitVec.toInt = _
  rw [BitVec.toInt_eq_toNat_cond]
  unfold lB at *
  rw [if_pos (by omega)]
theorem lB_or (x y : Int64) : lB (x ||| y) = lB x ||| lB y := BitVec.toNat_or _ _
theorem lB_and (x y : Int64) : lB (x &&& y) = lB x &&& lB y := BitVec.toNat_and _ _
theorem lB_byte (x : Int64) : lB (x &&& 255) = lB x % 256 := by
  rw [lB_and]
  exact Nat.and_two_pow_sub_one_eq_mod (lB x) 8
theorem lB_s8 (x : Int64) : lB (x <<< ((8 : Int32).toInt64 &&& 63)) = (lB x * 256) % 18446744073709551616 := by
  have e : (x <<< ((8 : Int32).toInt64 &&& 63)).toBitVec = x.toBitVec <<< 8 := rfl
  unfold lB
  rw [e, BitVec.toNat_shiftLeft, Nat.shiftLeft_eq]
theorem lB_s16 (x : Int64) : lB (x <<< ((16 : Int32).toInt64 &&& 63)) = (lB x * 65536) % 18446744073709551616 := by
  have e : (x <<< ((16 : Int32).toInt64 &&& 63)).toBitVec = x.toBitVec <<< 16 := rfl
  unfold lB
  rw [e, BitVec.toNat_shiftLeft, Nat.shiftLeft_eq]
theorem lB_s24 (x : Int64) : lB (x <<< ((24 : Int32).toInt64 &&& 63)) = (lB x * 16777216) % 18446744073709551616 := by
  have e : (x <<< ((24 : Int32).toInt64 &&& 63)).toBitVec = x.toBitVec <<< 24 := rfl
  unfold lB
  rw [e, BitVec.toNat_shiftLeft, Nat.shiftLeft_eq]
/-- a byte of the memory -/
def sB (S : zS) (i : Nat) : Nat := ((S 3 i).toInt % 256).toNat
theorem sB_lt (S : zS) (i : Nat) : sB S i < 256 := by unfold sB; omega
theorem lB_i (p : Int32) : (lB p.toInt64 : Int) % 256 = p.toInt % 256 := by
  have h := l_i p
  have h2 : p.toInt64.toInt = p.toInt64.toBitVec.toInt := rfl
  rw [BitVec.toInt_eq_toNat_cond] at h2
  unfold lB
  have rp := i_rng p
  split at h2 <;> omega
theorem lB_B (S : zS) (i : Nat) : lB ((S 3 i).toInt64 &&& 255) = sB S i := by
  rw [lB_byte]
  have := lB_i (S 3 i)
  unfold sB
  omega
theorem iN_and (x : Int32) : (x &&& 255).toInt = x.toInt % 256 := by
  have e : (x &&& 255).toBitVec.toNat = x.toBitVec.toNat % 256 := by
    show (x.toBitVec &&& (255 : Int32).toBitVec).toNat = _
    rw [BitVec.toNat_and]
    exact Nat.and_two_pow_sub_one_eq_mod x.toBitVec.toNat 8
  have h1 : (x &&& 255).toInt = (x &&& 255).toBitVec.toInt := rfl
  have h2 : x.toInt = x.toBitVec.toInt := rfl
  rw [BitVec.toInt_eq_toNat_cond] at h1 h2
  rw [e] at h1
  have := x.toBitVec.isLt
  split at h1 <;> split at h2 <;> omega
theorem iN_B (S : zS) (i : Nat) : S 3 i &&& 255 = nI (sB S i) := by
  apply i_ext
  have := sB_lt S i
  rw [iN_and, i_nI (by omega)]
  unfold sB
  omega
theorem lB_nI {n : Nat} (h : n < 2147483648) : lB (nI n).toInt64 = n := by
  have h1 := l_nI h
  have h2 : (nI n).toInt64.toInt = (nI n).toInt64.toBitVec.toInt := rfl
  rw [BitVec.toInt_eq_toNat_cond] at h2
  unfold lB
  have := (nI n).toInt64.toBitVec.isLt
  split at h2 <;> omega
theorem or_add {x y k : Nat} (h : x < 2 ^ k) : x ||| (y * 2 ^ k) = x + y * 2 ^ k := by
  rw [Nat.or_comm, ← Nat.shiftLeft_eq, ← Nat.shiftLeft_add_eq_or_of_lt h, Nat.add_comm]
theorem or_add' {x y k : Nat} (h : x < 2 ^ k) : (y * 2 ^ k) ||| x = x + y * 2 ^ k := by rw [Nat.or_comm]; exact or_add h
def sWv (S : zS) (a : Nat) : Nat := sB S a + 256 * sB S (a + 1) + 65536 * sB S (a + 2) + 16777216 * sB S (a + 3)
theorem sNm_4 (S : zS) (a : Nat) : lB (sNm S a 4 4) = sWv S a := by
  have b0 := sB_lt S a
  have b1 := sB_lt S (a + 1)
  have b2 := sB_lt S (a + 2)
  have b3 := sB_lt S (a + 3)
  have step : ∀ j, j < 4 → lB (sNm S a 4 j) < 2 ^ 48 → lB (sNm S a 4 (j + 1)) = sB S (a + (3 - j)) + lB (sNm S a 4 j) * 2 ^ 8 := by
    intro j hj hb
    have hb' := sB_lt S (a + (3 - j))
    show lB ((sNm S a 4 j <<< ((8 : Int32).toInt64 &&& 63)) ||| (S 3 (a + (4 - 1 - j)) &&& 255).toInt64) = _
    rw [lB_or, lB_s8, iN_B, lB_nI (by have := sB_lt S (a + (4 - 1 - j)); omega), Nat.mod_eq_of_lt (by omega)]
    exact or_add' (k := 8) (by omega)
  have s0 : lB (sNm S a 4 0) = 0 := rfl
  have s1 : lB (sNm S a 4 1) = sB S (a + 3) + lB (sNm S a 4 0) * 2 ^ 8 := step 0 (by omega) (by omega)
  have s2 : lB (sNm S a 4 2) = sB S (a + 2) + lB (sNm S a 4 1) * 2 ^ 8 := step 1 (by omega) (by omega)
  have s3 : lB (sNm S a 4 3) = sB S (a + 1) + lB (sNm S a 4 2) * 2 ^ 8 := step 2 (by omega) (by omega)
  have s4 : lB (sNm S a 4 4) = sB S a + lB (sNm S a 4 3) * 2 ^ 8 := step 3 (by omega) (by omega)
  unfold sWv
  omega
section ZWD
variable {X : zCx} {h : zHp} {m : Nat} {S : zS} {cc : Nat}
theorem rc_word (G : zG X) (a : Nat) (ha : a + 3 < 8192) : ZM X MX11_word 0 100 [.ref m, .int (nI a)] (zr X h m S) (fun r h' => h' = zr X h m S ∧ ∃ x : Int64, x.toInt = (sWv S a : Int) ∧ r = .inl (some (.long x))) := by
  refine zm_of_z G KX11_word rfl rfl ?_
  refine z_go 90 rfl ?_
  refine z_get zr_o rfl rfl rfl rfl ?_
  refine z_go 90 rfl ?_
  refine r_ld3 a (i_nI (by omega)) (by omega) rfl ?_
  refine z_go 90 rfl ?_
  refine z_ldc2 rfl z_lit255 ?_
  refine z_go 90 rfl ?_
  refine z_get zr_o rfl rfl rfl rfl ?_
  refine z_go 90 rfl ?_
  rw [show nI a + (1 : Int32) = nI (a + 1) from n_add a 1]
  refine r_ld3 (a + 1) (i_nI (by omega)) (by omega) rfl ?_
  refine z_go 90 rfl ?_
  refine z_ldc2 rfl z_lit255 ?_
  refine z_go 90 rfl ?_
  refine z_get zr_o rfl rfl rfl rfl ?_
  refine z_go 90 rfl ?_
  rw [show nI a + (2 : Int32) = nI (a + 2) from n_add a 2]
  refine r_ld3 (a + 2) (i_nI (by omega)) (by omega) rfl ?_
  refine z_go 90 rfl ?_
  refine z_ldc2 rfl z_lit255 ?_
  refine z_go 90 rfl ?_
  refine z_get zr_o rfl rfl rfl rfl ?_
  refine z_go 90 rfl ?_
  rw [show nI a + (3 : Int32) = nI (a + 3) from n_add a 3]
  refine r_ld3 (a + 3) (i_nI (by omega)) (by omega) rfl ?_
  refine z_go 90 rfl ?_
  refine z_ldc2 rfl z_lit255 ?_
  refine z_go 90 rfl ?_
  refine z_lret rfl rfl ⟨rfl, _, ?_, rfl⟩
  have b0 := sB_lt S a
  have b1 := sB_lt S (a + 1)
  have b2 := sB_lt S (a + 2)
  have b3 := sB_lt S (a + 3)
  have e : lB (((((S 3 a).toInt64 &&& 255) ||| (((S 3 (a + 1)).toInt64 &&& 255) <<< ((8 : Int32).toInt64 &&& 63))) ||| (((S 3 (a + 2)).toInt64 &&& 255) <<< ((16 : Int32).toInt64 &&& 63))) ||| (((S 3 (a + 3)).toInt64 &&& 255) <<< ((24 : Int32).toInt64 &&& 63))) = sWv S a := by
    rw [lB_or, lB_or, lB_or, lB_s8, lB_s16, lB_s24, lB_B, lB_B, lB_B, lB_B, Nat.mod_eq_of_lt (by omega), Nat.mod_eq_of_lt (by omega), Nat.mod_eq_of_lt (by omega)]
    rw [show sB S (a + 1) * 256 = sB S (a + 1) * 2 ^ 8 from rfl, or_add (k := 8) (by omega)]
    rw [show sB S (a + 2) * 65536 = sB S (a + 2) * 2 ^ 16 from rfl, or_add (k := 16) (by omega)]
    rw [show sB S (a + 3) * 16777216 = sB S (a + 3) * 2 ^ 24 from rfl, or_add (k := 24) (by omega)]
    unfold sWv
    omega
  rw [← e]
  refine lB_toInt ?_
  have : sWv S a < 4294967296 := by unfold sWv; omega
  exact e ▸ (show sWv S a < 9223372036854775808 by omega)
def sLd (S : zS) (a n b : Nat) : Prop := ∃ i, 4 * i + 4 ≤ n ∧ sN S 15 b ≤ sWv S (a + 4 * i) ∧ sWv S (a + 4 * i) < sN S 15 b + sN S 16 b
theorem rc_leads (G : zG X) (I : sI0 S) (a n b : Nat) (ha : a + n ≤ 8192) (hb : b < 520) : ZM X MX11_leads 1 127 [.ref m, .int (nI a), .int (nI n), .int (nI b)] (zr X h m S) (zX (zr X h m S) (some (.int (zif (sLd S a n b) 1 0)))) := by
  have l15 := sN_lt I (k := 15) (i := b) rfl
  have l16 := sN_lt I (k := 16) (i := b) rfl
  refine zm_of_z G KX11_leads rfl rfl ?_
  refine z_go 90 rfl ?_
  have H := zdown (P := fun k => ∀ o5, (∀ i, i < k → ¬ (sN S 15 b ≤ sWv S (a + 4 * i) ∧ sWv S (a + 4 * i) < sN S 15 b + sN S 16 b)) → Z X MX11_leads (1, 127, h.2.1, h.2.2) (zr X h m S) 10 [some (.ref m), some (.int (nI a)), some (.int (nI n)), some (.int (nI b)), some (.int (nI (a + 4 * k))), o5, none] [.int (nI (a + n)), .int (nI (a + 4 * k + 4))] (zX (zr X h m S) (some (.int (zif (sLd S a n b) 1 0))))) (n / 4 + 1) (fun k hk ih o5 hp => ?_) 0 (Nat.zero_le _) none (fun j hj => by omega)
  · rw [n_add, show nI a + (4 : Int32) = nI (a + 4) from n_add a 4]
    exact H
  refine z_br rfl rfl (fun c => ?_) (fun c => ?_) <;> (try dsimp only at c)
  · rw [n_lt (by omega) (by omega)] at c
    refine z_go 90 rfl ?_
    exact z_zret rfl rfl rfl ⟨rfl, by
      rw [zif_neg]
      rintro ⟨i, h1, h2⟩
      exact hp i (by omega) h2⟩
  rw [n_lt (by omega) (by omega)] at c
  refine z_go 90 rfl ?_
  refine z_invV (rc_word G (a + 4 * k) (by omega)) KX11_word zr_o (by decide) IX11_word VX11_word rfl rfl PX11_word rfl rfl rfl rfl (fun v h' q => ?_) (fun E h' q => by obtain ⟨-, x, -, q⟩ := q; cases q)
  obtain ⟨rfl, x, hx, q⟩ := q
  cases q
  have go : ¬ (sN S 15 b ≤ sWv S (a + 4 * k) ∧ sWv S (a + 4 * k) < sN S 15 b + sN S 16 b) → Z X MX11_leads (1, 127, h.2.1, h.2.2) (zr X h m S) 56 [some (.ref m), some (.int (nI a)), some (.int (nI n)), some (.int (nI b)), some (.int (nI (a + 4 * k))), some (.long x), none] [] (zX (zr X h m S) (some (.int (zif (sLd S a n b) 1 0)))) := by
    intro hn
    refine z_go 90 rfl ?_
    rw [show nI (a + 4 * k) + (4 : Int32) = nI (a + 4 * (k + 1)) from n_add _ 4, n_add, show nI (a + 4 * (k + 1)) + (4 : Int32) = nI (a + 4 * (k + 1) + 4) from n_add _ 4]
    refine ih (by omega) _ (fun i hi => ?_)
    by_cases e : i = k
    · subst e; exact hn
    · exact hp i (by omega)
  refine z_go 90 rfl ?_
  refine z_get zr_o rfl rfl rfl rfl ?_
  refine z_go 90 rfl ?_
  refine r_lv15 b (sN_eq I rfl) (i_nI (by omega)) (by omega) rfl ?_
  refine z_go 90 rfl ?_
  refine z_br rfl rfl (fun d => ?_) (fun d => ?_) <;> (try dsimp only at d)
  · rw [lc_lt, l_nI (by omega)] at d
    exact go (by omega)
  rw [lc_lt, l_nI (by omega)] at d
  refine z_go 90 rfl ?_
  refine z_get zr_o rfl rfl rfl rfl ?_
  refine z_go 90 rfl ?_
  refine r_lv15 b (sN_eq I rfl) (i_nI (by omega)) (by omega) rfl ?_
  refine z_go 90 rfl ?_
  refine z_get zr_o rfl rfl rfl rfl ?_
  refine z_go 90 rfl ?_
  refine r_lv16 b (sN_eq I rfl) (i_nI (by omega)) (by omega) rfl ?_
  refine z_go 90 rfl ?_
  rw [n_add]
  refine z_br rfl rfl (fun e => ?_) (fun e => ?_) <;> (try dsimp only at e)
  · rw [lc_ge, l_nI (by omega)] at e
    exact go (by omega)
  · rw [lc_ge, l_nI (by omega)] at e
    refine z_go 90 rfl ?_
    exact z_zret rfl rfl rfl ⟨rfl, by rw [zif_pos (p := sLd S a n b) ⟨k, by omega, by omega, by omega⟩]⟩
end ZWD
