section ZM3
variable {X : zCx} {h : zHp} {xm xb xs : Nat} {S : zS} {cc : Nat}
theorem c_kind (G : zG X) (I : sInv S cc) (M : zMS X h xm xb xs S) (p : Int32) (hw : sWr S p.toInt ≠ 0) : ZM X MX6_kindOfWrong 1 127 [.ref xm, .int p] h (zX h (some (.int (nI (sWr S p.toInt))))) := by
  obtain ⟨m1, m2, m3, m4, m5, m6, m7⟩ := id M
  refine zm_of_z G KX6_kindOfWrong rfl rfl ?_
  refine z_go 90 rfl ?_
  refine z_cV m1 (c_isAddr G M p) KX6_isAddress IX6_isAddress VX6_isAddress rfl rfl rfl PX6_isAddress rfl rfl rfl rfl ?_
  refine z_ite (p := 0 ≤ p.toInt ∧ p.toInt < sN S 1 0) (fun q => ?_) (fun q => ?_)
  case _ =>
    rw [zif_pos q]
    obtain ⟨y, rfl, hy⟩ := i_nat q.1
    rw [i_nI hy] at q hw ⊢
    have l4 := sN_lt I.1 (k := 4) (i := y / 8) rfl
    have l5 := sN_lt I.1 (k := 4) (i := y / 8 + 1) rfl
    have hb : sGB (sN S 4 (y / 8)) ≤ 8 := by unfold sGB; split <;> (try split) <;> omega
    have hWe : sWr S (y : Int) = zif (sGd S y) 0 (sKd (if sN S 4 (y / 8) < 8 then sN S 4 (y / 8 + 1) else sN S 4 (y / 8))) := by
      unfold sWr
      rw [zif_neg (by omega), Int.toNat_natCast]
    have hg : ¬ sGd S y := fun z => hw (by rw [hWe, zif_pos z])
    rw [hWe, zif_neg hg]
    have h0 : sN S 4 (y / 8) ≠ 0 := fun z => hg (Or.inl z)
    refine z_br rfl rfl (fun _ => ?_) (fun c => absurd c (by first | decide | (dsimp only; decide)))
    refine z_go 90 rfl ?_
    refine z_div rfl (by decide) ?_
    refine z_go 90 rfl ?_
    rw [show nI y / (8 : Int32) = nI (y / 8) from n_div (b := 8) (by omega) (by omega) (by omega)]
    refine z_cV m1 (c_shadowOf G M (nI (y / 8))) KX6_shadowOf IX6_shadowOf VX6_shadowOf rfl rfl rfl PX6_shadowOf rfl rfl rfl rfl ?_
    rw [i_nI (show y / 8 < 2147483648 by omega), zif_pos (by omega), Int.toNat_natCast, sN_eq I.1 (k := 4) (i := y / 8) rfl]
    refine z_go 90 rfl ?_
    refine z_cV m1 (c_goodBytes G (sN S 4 (y / 8)) (by omega)) KX6_goodBytes IX6_goodBytes VX6_goodBytes rfl rfl rfl PX6_goodBytes rfl rfl rfl rfl ?_
    have fin : ∀ s : Nat, s < 10000 → Z X MX6_kindOfWrong (1, 127, h.2.1, h.2.2) h 40 [some (.ref xm), some (.int (nI y)), some (.int (nI s))] [.int (nI s)] (zX h (some (.int (nI (sKd s))))) := by
      intro s hs
      have ts := i_nI (n := s) (by omega)
      by_cases r : s < 241 ∨ 253 < s
      · refine z_swO 126 rfl (by omega) rfl ?_
        refine z_go 90 rfl ?_
        exact z_iret rfl rfl ⟨rfl, by unfold sKd; rw [if_neg (by omega), if_neg (by omega), if_neg (by omega), if_neg (by omega), if_neg (by omega), if_neg (by omega), if_neg (by omega)]; rfl⟩
      · have : s = 241 ∨ s = 242 ∨ s = 243 ∨ s = 244 ∨ s = 245 ∨ s = 246 ∨ s = 247 ∨ s = 248 ∨ s = 249 ∨ s = 250 ∨ s = 251 ∨ s = 252 ∨ s = 253 := by omega
        rcases this with rfl | rfl | rfl | rfl | rfl | rfl | rfl | rfl | rfl | rfl | rfl | rfl | rfl
        · refine z_swI 112 241 rfl rfl (by decide) (by decide) rfl rfl ?_
          refine z_go 90 rfl ?_
          exact z_iret rfl rfl ⟨rfl, rfl⟩
        · refine z_swI 114 242 rfl rfl (by decide) (by decide) rfl rfl ?_
          refine z_go 90 rfl ?_
          exact z_iret rfl rfl ⟨rfl, rfl⟩
        · refine z_swI 116 243 rfl rfl (by decide) (by decide) rfl rfl ?_
          refine z_go 90 rfl ?_
          exact z_iret rfl rfl ⟨rfl, rfl⟩
        · refine z_swI 126 244 rfl rfl (by decide) (by decide) rfl rfl ?_
          refine z_go 90 rfl ?_
          exact z_iret rfl rfl ⟨rfl, rfl⟩
        · refine z_swI 118 245 rfl rfl (by decide) (by decide) rfl rfl ?_
          refine z_go 90 rfl ?_
          exact z_iret rfl rfl ⟨rfl, rfl⟩
        · refine z_swI 126 246 rfl rfl (by decide) (by decide) rfl rfl ?_
          refine z_go 90 rfl ?_
          exact z_iret rfl rfl ⟨rfl, rfl⟩
        · refine z_swI 126 247 rfl rfl (by decide) (by decide) rfl rfl ?_
          refine z_go 90 rfl ?_
          exact z_iret rfl rfl ⟨rfl, rfl⟩
        · refine z_swI 120 248 rfl rfl (by decide) (by decide) rfl rfl ?_
          refine z_go 90 rfl ?_
          exact z_iret rfl rfl ⟨rfl, rfl⟩
        · refine z_swI 123 249 rfl rfl (by decide) (by decide) rfl rfl ?_
          refine z_go 90 rfl ?_
          exact z_iret rfl rfl ⟨rfl, rfl⟩
        · refine z_swI 108 250 rfl rfl (by decide) (by decide) rfl rfl ?_
          refine z_go 90 rfl ?_
          exact z_iret rfl rfl ⟨rfl, rfl⟩
        · refine z_swI 126 251 rfl rfl (by decide) (by decide) rfl rfl ?_
          refine z_go 90 rfl ?_
          exact z_iret rfl rfl ⟨rfl, rfl⟩
        · refine z_swI 126 252 rfl rfl (by decide) (by decide) rfl rfl ?_
          refine z_go 90 rfl ?_
          exact z_iret rfl rfl ⟨rfl, rfl⟩
        · refine z_swI 110 253 rfl rfl (by decide) (by decide) rfl rfl ?_
          refine z_go 90 rfl ?_
          exact z_iret rfl rfl ⟨rfl, rfl⟩
    refine z_br rfl rfl (fun c => ?_) (fun c => ?_) <;> (try dsimp only at c)
    · rw [show (0 : Int32) = nI 0 from rfl, n_le (by omega) (by omega)] at c
      refine z_go 90 rfl ?_
      have h8 : ¬ sN S 4 (y / 8) < 8 := by
        intro z
        unfold sGB at c
        rw [if_neg h0, if_pos z] at c
        omega
      rw [if_neg h8]
      exact fin _ l4
    · rw [show (0 : Int32) = nI 0 from rfl, n_le (by omega) (by omega)] at c
      have h8 : sN S 4 (y / 8) < 8 := Classical.byContradiction fun z => by
        unfold sGB at c
        rw [if_neg h0, if_neg z] at c
        omega
      have h7 := (I.2.2.2.2.2.2.1 (y / 8)).2 (by omega) (by omega)
      rw [if_pos h8]
      refine z_go 90 rfl ?_
      refine z_div rfl (by decide) ?_
      refine z_go 90 rfl ?_
      rw [show nI y / (8 : Int32) = nI (y / 8) from n_div (b := 8) (by omega) (by omega) (by omega), show nI (y / 8) + (1 : Int32) = nI (y / 8 + 1) from n_succ _]
      refine z_cV m1 (c_shadowOf G M (nI (y / 8 + 1))) KX6_shadowOf IX6_shadowOf VX6_shadowOf rfl rfl rfl PX6_shadowOf rfl rfl rfl rfl ?_
      rw [i_nI (show y / 8 + 1 < 2147483648 by omega), zif_pos (by omega), Int.toNat_natCast, sN_eq I.1 (k := 4) (i := y / 8 + 1) rfl]
      refine z_go 90 rfl ?_
      exact fin _ l5
  · rw [zif_neg q]
    refine z_br rfl rfl (fun c => absurd c (by first | decide | (dsimp only; decide))) (fun _ => ?_)
    refine z_go 90 rfl ?_
    exact z_iret rfl rfl ⟨rfl, by unfold sWr; rw [zif_pos (by omega)]; rfl⟩
/-- the good bytes of one granule -/
theorem zSum_8 (g : Nat → Nat) (k : Nat) : zSum g (8 * (k + 1)) = zSum g (8 * k) + g (8 * k) + g (8 * k + 1) + g (8 * k + 2) + g (8 * k + 3) + g (8 * k + 4) + g (8 * k + 5) + g (8 * k + 6) + g (8 * k + 7) := rfl
theorem sGood_g {S : zS} {k : Nat} (hk : 8 * k + 8 ≤ sN S 1 0) (i : Nat) (hi : i < 8) : zif (sWr S ((8 * k + i : Nat) : Int) = 0) 1 0 = if sN S 4 k = 0 ∨ (sN S 4 k < 8 ∧ i < sN S 4 k) then 1 else 0 := by
  have e1 : (8 * k + i) / 8 = k := by omega
  have e2 : (8 * k + i) % 8 = i := by omega
  have hW : sWr S ((8 * k + i : Nat) : Int) = 0 ↔ sGd S (8 * k + i) := by
    unfold sWr
    rw [zif_neg (by omega), Int.toNat_natCast]
    by_cases d : sGd S (8 * k + i)
    · rw [zif_pos d]; exact ⟨fun _ => d, fun _ => rfl⟩
    · rw [zif_neg d]
      have := sKd_b (if sN S 4 ((8 * k + i) / 8) < 8 then sN S 4 ((8 * k + i) / 8 + 1) else sN S 4 ((8 * k + i) / 8))
      exact ⟨fun z => by omega, fun z => absurd z d⟩
  unfold sGd at hW
  rw [e1, e2] at hW
  by_cases c : sN S 4 k = 0 ∨ (sN S 4 k < 8 ∧ i < sN S 4 k)
  · rw [if_pos c, zif_pos (hW.mpr c)]
  · rw [if_neg c, zif_neg (fun z => c (hW.mp z))]
theorem sGood_k {S : zS} (k : Nat) (hk : 8 * k ≤ sN S 1 0) : zSum (fun a => zif (sWr S a = 0) 1 0) (8 * k) = zSum (fun g => sGB (sN S 4 g)) k := by
  induction k with
  | zero => rfl
  | succ k ih =>
    have h0 := sGood_g (S := S) (k := k) (by omega)
    have e0 : zif (sWr S ((8 * k : Nat) : Int) = 0) 1 0 = if sN S 4 k = 0 ∨ (sN S 4 k < 8 ∧ 0 < sN S 4 k) then 1 else 0 := h0 0 (by omega)
    rw [zSum_8]
    show _ = zSum (fun g => sGB (sN S 4 g)) k + sGB (sN S 4 k)
    rw [ih (by omega)]
    have e1 := h0 1 (by omega)
    have e2 := h0 2 (by omega)
    have e3 := h0 3 (by omega)
    have e4 := h0 4 (by omega)
    have e5 := h0 5 (by omega)
    have e6 := h0 6 (by omega)
    have e7 := h0 7 (by omega)
    rw [e0, e1, e2, e3, e4, e5, e6, e7]
    unfold sGB
    generalize sN S 4 k = s
    by_cases c : s < 9
    · have : s = 0 ∨ s = 1 ∨ s = 2 ∨ s = 3 ∨ s = 4 ∨ s = 5 ∨ s = 6 ∨ s = 7 ∨ s = 8 := by omega
      rcases this with rfl | rfl | rfl | rfl | rfl | rfl | rfl | rfl | rfl <;> rfl
    · have hn : ∀ i : Nat, ¬ (s = 0 ∨ (s < 8 ∧ i < s)) := fun i => by omega
      rw [if_neg (hn 0), if_neg (hn 1), if_neg (hn 2), if_neg (hn 3), if_neg (hn 4), if_neg (hn 5), if_neg (hn 6), if_neg (hn 7), if_neg (by omega), if_neg (by omega)]
theorem c_goodAddr (G : zG X) (I : sInv S cc) (M : zMS X h xm xb xs S) : ZM X MX6_goodAddresses 1 127 [.ref xm] h (zX h (some (.int (nI (sGood S))))) := by
  obtain ⟨m1, m2, m3, m4, m5, m6, m7⟩ := id M
  have hgd : sGood S = zSum (fun g => sGB (sN S 4 g)) (sN S 1 0 / 8) := by
    unfold sGood
    rw [← sGood_k (sN S 1 0 / 8) (by omega), show 8 * (sN S 1 0 / 8) = sN S 1 0 by omega]
  rw [hgd]
  refine zm_of_z G KX6_goodAddresses rfl rfl ?_
  refine z_go 90 rfl ?_
  refine z_get m1 rfl rfl rfl rfl ?_
  refine z_alenI m3 rfl ?_
  have H := zdown (P := fun k => Z X MX6_goodAddresses (1, 127, h.2.1, h.2.2) h 10 [some (.ref xm), some (.int (nI (zSum (fun g => sGB (sN S 4 g)) k))), some (.int (nI k))] [.int (nI (sN S 1 0 / 8)), .int (nI k)] (zX h (some (.int (nI (zSum (fun g => sGB (sN S 4 g)) (sN S 1 0 / 8))))))) (sN S 1 0 / 8) (fun k hk ih => ?_) 0 (Nat.zero_le _)
  · exact H
  refine z_br rfl rfl (fun c => ?_) (fun c => ?_) <;> (try dsimp only at c)
  · rw [n_le (by omega) (by omega)] at c
    have : k = sN S 1 0 / 8 := by omega
    subst this
    refine z_go 90 rfl ?_
    exact z_iret rfl rfl ⟨rfl, rfl⟩
  rw [n_le (by omega) (by omega)] at c
  have l4 := sN_lt I.1 (k := 4) (i := k) rfl
  refine z_go 90 rfl ?_
  refine z_get m1 rfl rfl rfl rfl ?_
  refine z_go 90 rfl ?_
  refine z_iald k m3 rfl (i_nI (by omega)) (by omega) ?_
  rw [sN_eq I.1 (k := 4) (i := k) rfl]
  refine z_cV m1 (c_goodBytes G (sN S 4 k) (by omega)) KX6_goodBytes IX6_goodBytes VX6_goodBytes rfl rfl rfl PX6_goodBytes rfl rfl rfl rfl ?_
  refine z_go 90 rfl ?_
  rw [n_add, show nI k + (1 : Int32) = nI (k + 1) from n_succ k]
  refine z_get m1 rfl rfl rfl rfl ?_
  refine z_alenI m3 rfl ?_
  exact ih (by omega)
end ZM3
