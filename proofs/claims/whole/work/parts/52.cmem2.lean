def zMS (X : zCx) (h : zHp) (xm xb xs : Nat) (S : zS) : Prop := zMem X h xm xb xs (sN S 1 0) (fun i => S 3 i &&& 255) (S 4)
theorem b_and (x : Int32) : x.toInt8.toInt32 &&& 255 = x &&& 255 := by
  apply i_ext
  rw [iN_and, iN_and, Int8.toInt_toInt32, Int32.toInt_toInt8, Int.bmod_def]
  have := i_rng x
  omega
theorem sWr_wrap {S : zS} {p : Int32} {i : Nat} (hi : i ≤ 100000) (hN : sN S 1 0 ≤ 8192) : sWr S (p + nI i).toInt = sWr S (p.toInt + i) := by
  have rp := i_rng p
  have ti := i_nI (n := i) (by omega)
  by_cases c : p.toInt + i ≤ 2147483647
  · rw [i_add (by omega) (by omega), ti]
  · have e : (p + nI i).toInt = p.toInt + i - 4294967296 := by
      rw [Int32.toInt_add, ti, Int.bmod_def]
      omega
    unfold sWr
    rw [zif_pos (by omega), zif_pos (by omega)]
section ZM2
variable {X : zCx} {h : zHp} {xm xb xs : Nat} {S : zS} {cc : Nat}
def sGB (s : Nat) : Nat := if s = 0 then 8 else if s < 8 then s else 0
theorem c_goodBytes (G : zG X) (s : Nat) (hs : s ≤ 10000) : ZM X MX6_goodBytes 0 100 [.ref xm, .int (nI s)] h (zX h (some (.int (nI (sGB s))))) := by
  refine zm_of_z G KX6_goodBytes rfl rfl ?_
  refine z_go 90 rfl ?_
  refine z_br rfl rfl (fun c => ?_) (fun c => ?_) <;> (try dsimp only at c)
  · rw [show (0 : Int32) = nI 0 from rfl, n_eq (by omega) (by omega)] at c
    refine z_go 90 rfl ?_
    refine z_br rfl rfl (fun d => ?_) (fun d => ?_) <;> (try dsimp only at d)
    · rw [show (8 : Int32) = nI 8 from rfl, n_le (by omega) (by omega)] at d
      refine z_go 90 rfl ?_
      exact z_iret rfl rfl ⟨rfl, by unfold sGB; rw [if_neg c, if_neg (by omega)]; rfl⟩
    · rw [show (8 : Int32) = nI 8 from rfl, n_le (by omega) (by omega)] at d
      refine z_go 90 rfl ?_
      exact z_iret rfl rfl ⟨rfl, by unfold sGB; rw [if_neg c, if_pos (by omega)]⟩
  · rw [show (0 : Int32) = nI 0 from rfl, n_eq (by omega) (by omega)] at c
    refine z_go 90 rfl ?_
    exact z_iret rfl rfl ⟨rfl, by unfold sGB; rw [if_pos c]; rfl⟩
theorem c_isGood (G : zG X) (I : sInv S cc) (M : zMS X h xm xb xs S) (p : Int32) : ZM X MX6_isGood 1 127 [.ref xm, .int p] h (zX h (some (.int (zif (sWr S p.toInt = 0) 1 0)))) := by
  obtain ⟨m1, m2, m3, m4, m5, m6, m7⟩ := id M
  refine zm_of_z G KX6_isGood rfl rfl ?_
  refine z_go 90 rfl ?_
  refine z_cV m1 (c_isAddr G M p) KX6_isAddress IX6_isAddress VX6_isAddress rfl rfl rfl PX6_isAddress rfl rfl rfl rfl ?_
  refine z_ite (p := 0 ≤ p.toInt ∧ p.toInt < sN S 1 0) (fun q => ?_) (fun q => ?_)
  · rw [zif_pos q]
    obtain ⟨y, rfl, hy⟩ := i_nat q.1
    rw [i_nI hy] at q
    have l4 := sN_lt I.1 (k := 4) (i := y / 8) rfl
    have hb : sGB (sN S 4 (y / 8)) ≤ 8 := by unfold sGB; split <;> (try split) <;> omega
    refine z_br rfl rfl (fun c => absurd c (by first | decide | (dsimp only; decide))) (fun _ => ?_)
    refine z_go 90 rfl ?_
    refine z_rem rfl (by decide) ?_
    refine z_go 90 rfl ?_
    rw [show nI y - nI y / (8 : Int32) * (8 : Int32) = nI (y % 8) from n_rem (b := 8) (by omega) (by omega) (by omega)]
    refine z_div rfl (by decide) ?_
    refine z_go 90 rfl ?_
    rw [show nI y / (8 : Int32) = nI (y / 8) from n_div (b := 8) (by omega) (by omega) (by omega)]
    refine z_cV m1 (c_shadowOf G M (nI (y / 8))) KX6_shadowOf IX6_shadowOf VX6_shadowOf rfl rfl rfl PX6_shadowOf rfl rfl rfl rfl ?_
    rw [i_nI (show y / 8 < 2147483648 by omega), zif_pos (by omega), Int.toNat_natCast, sN_eq I.1 (k := 4) (i := y / 8) rfl]
    refine z_cV m1 (c_goodBytes G (sN S 4 (y / 8)) (by omega)) KX6_goodBytes IX6_goodBytes VX6_goodBytes rfl rfl rfl PX6_goodBytes rfl rfl rfl rfl ?_
    have hW : sWr S (nI y).toInt = 0 ↔ sGd S y := by
      rw [i_nI hy]
      unfold sWr
      rw [zif_neg (by omega), Int.toNat_natCast]
      by_cases d : sGd S y
      · rw [zif_pos d]; exact ⟨fun _ => d, fun _ => rfl⟩
      · rw [zif_neg d]
        have := sKd_b (if sN S 4 (y / 8) < 8 then sN S 4 (y / 8 + 1) else sN S 4 (y / 8))
        exact ⟨fun z => by omega, fun z => absurd z d⟩
    refine z_br rfl rfl (fun c => ?_) (fun c => ?_) <;> (try dsimp only at c)
    · rw [n_le (by omega) (by omega)] at c
      refine z_go 90 rfl ?_
      exact z_zret rfl rfl rfl ⟨rfl, by
        rw [zif_neg]
        rw [hW]
        unfold sGd
        unfold sGB at c
        split at c <;> (try split at c) <;> omega⟩
    · rw [n_le (by omega) (by omega)] at c
      refine z_go 90 rfl ?_
      exact z_zret rfl rfl rfl ⟨rfl, by
        rw [zif_pos]
        rw [hW]
        unfold sGd
        unfold sGB at c
        split at c <;> (try split at c) <;> omega⟩
  · rw [zif_neg q]
    refine z_br rfl rfl (fun _ => ?_) (fun c => absurd c (by first | decide | (dsimp only; decide)))
    refine z_go 90 rfl ?_
    exact z_zret rfl rfl rfl ⟨rfl, by
      rw [zif_neg]
      unfold sWr
      rw [zif_pos (by omega)]
      omega⟩
theorem c_firstWrong (G : zG X) (I : sInv S cc) (M : zMS X h xm xb xs S) (p : Int32) (n : Nat) (hn : n ≤ 20000) : ZM X MX6_firstWrong 2 154 [.ref xm, .int p, .int (nI n)] h (zX h (some (.int (zoI (sFw S p 0 n))))) := by
  obtain ⟨m1, m2, m3, m4, m5, m6, m7⟩ := id M
  refine zm_of_z G KX6_firstWrong rfl rfl ?_
  refine z_go 90 rfl ?_
  have H := zdown (P := fun k => (∀ j, j < k → ¬ sWr S (p.toInt + (0 + j : Nat)) ≠ 0) → Z X MX6_firstWrong (2, 154, h.2.1, h.2.2) h 4 [some (.ref xm), some (.int p), some (.int (nI n)), some (.int (nI k))] [.int (nI n), .int (nI k)] (zX h (some (.int (zoI (sFw S p 0 n)))))) n (fun k hk ih hp => ?_) 0 (Nat.zero_le _) (fun j hj => by omega)
  · exact H
  refine z_br rfl rfl (fun c => ?_) (fun c => ?_) <;> (try dsimp only at c)
  · rw [n_le (by omega) (by omega)] at c
    refine z_go 90 rfl ?_
    have : sFw S p 0 n = none := by
      unfold sFw
      rw [zFst_none.mpr (fun j hj => hp j (by omega))]
      rfl
    rw [this]
    exact z_iret rfl rfl ⟨rfl, rfl⟩
  rw [n_le (by omega) (by omega)] at c
  refine z_go 90 rfl ?_
  refine z_cV m1 (c_isGood G I M (p + nI k)) KX6_isGood IX6_isGood VX6_isGood rfl rfl rfl PX6_isGood rfl rfl rfl rfl ?_
  rw [sWr_wrap (by omega) m5]
  refine z_ite (p := sWr S (p.toInt + k) = 0) (fun q => ?_) (fun q => ?_)
  · rw [zif_pos q]
    refine z_br rfl rfl (fun _ => ?_) (fun c => absurd c (by first | decide | (dsimp only; decide)))
    refine z_go 90 rfl ?_
    rw [show nI k + (1 : Int32) = nI (k + 1) from n_succ k]
    refine ih (by omega) (fun j hj => ?_)
    by_cases e : j = k
    · subst e
      rw [show 0 + j = j by omega]
      exact fun z => z q
    · exact hp j (by omega)
  · rw [zif_neg q]
    refine z_br rfl rfl (fun c => absurd c (by first | decide | (dsimp only; decide))) (fun _ => ?_)
    refine z_go 90 rfl ?_
    have : sFw S p 0 n = some k := by
      unfold sFw
      rw [(zFst_some (P := fun i => sWr S (p.toInt + (0 + i : Nat)) ≠ 0) (n := n - 0) (k := k)).mpr ⟨by omega, by rw [show 0 + k = k by omega]; exact q, hp⟩]
      show some (0 + k) = some k
      rw [Nat.zero_add]
    rw [this]
    exact z_iret rfl rfl ⟨rfl, rfl⟩
theorem c_number (G : zG X) (M : zMS X h xm xb xs S) (a n : Nat) (hn : a + n ≤ sN S 1 0) : ZM X MX6_number 1 127 [.ref xm, .int (nI a), .int (nI n)] h (zX h (some (.long (sNm S a n n)))) := by
  obtain ⟨m1, m2, m3, m4, m5, m6, m7⟩ := id M
  refine zm_of_z G KX6_number rfl rfl ?_
  refine z_go 90 rfl ?_
  have H := zdown (P := fun j => Z X MX6_number (1, 127, h.2.1, h.2.2) h 9 [some (.ref xm), some (.int (nI a)), some (.int (nI n)), some (.long (sNm S a n j)), none, some (.int (nI (n - j) - 1))] [.int (nI (n - j) - 1)] (zX h (some (.long (sNm S a n n))))) n (fun j hj ih => ?_) 0 (Nat.zero_le _)
  · exact H
  have e2 := i_nI (n := n - j) (by omega)
  have t1 : (1 : Int32).toInt = 1 := rfl
  have e3 : (nI (n - j) - 1).toInt = (n - j : Nat) - 1 := by rw [i_sub] <;> omega
  have e4 : (0 : Int32).toInt = 0 := rfl
  refine z_br rfl rfl (fun e => ?_) (fun e => ?_) <;> (try dsimp only at e)
  · rw [i_lt] at e
    have : j = n := by omega
    subst this
    refine z_go 90 rfl ?_
    exact z_lret rfl rfl ⟨rfl, rfl⟩
  · rw [i_lt] at e
    have e5 : nI (n - j) - 1 = nI (n - 1 - j) := by
      rw [show n - 1 - j = n - j - 1 by omega]
      exact n_sub (b := 1) (by omega) (by omega)
    rw [e5]
    refine z_go 90 rfl ?_
    rw [n_add]
    refine z_cV m1 (c_byteAt G M (nI (a + (n - 1 - j)))) KX6_byteAt IX6_byteAt VX6_byteAt rfl rfl rfl PX6_byteAt rfl rfl rfl rfl ?_
    rw [i_nI (show a + (n - 1 - j) < 2147483648 by omega), zif_pos (by omega), Int.toNat_natCast]
    refine z_go 90 rfl ?_
    have e6 : nI (n - 1 - j) + (-1) = nI (n - (j + 1)) - 1 := by rw [i_dec, show n - (j + 1) = n - 1 - j by omega]
    rw [e6]
    exact ih (by omega)
end ZM2
