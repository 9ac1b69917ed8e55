section ZPB
variable {X : zCx} {F : Nat → Option va_E} {o p q : Nat} {S : zS} {D : Nat → Nat → Nat} {W : Nat → Nat → Int32} {K : Nat → Nat → Nat} {h : zHp} {cc : Nat}
theorem zPub_x2 {E1 E2 : String} {v : Value} (R : zSt X F o S D W K h p q) (hne : E1 ≠ E2) : zPub X F o E1 E2 v (sThrow S 2) (p + 30) (q + 3000) (.inr E2) (zadd h 1 6) := ⟨⟨D, W, K, zSt_T (zSt_le (zSt_add R 1 6) (by omega) (by omega)) 2⟩, Or.inr (Or.inr ⟨rfl, rfl, hne⟩)⟩
theorem kp_shadow (G : zG X) (I : sInv S cc) (R : zSt X F o S D W K h p q) (hp : p ≤ 500000 ∧ q ≤ 7000000) (a : Int32) : ZM X MX10_shadow 7 290 [.ref o, .int a] h (zPub X F o zIOE zIOE (.int (sShadow S a).1) (sShadow S a).2 (p + 30) (q + 3000)) := by
  have lim := zSt_limA R hp
  rw [show (Value.ref o) = .ref (D 0 0) by rw [R.2.1.1]]
  by_cases c : a.toInt < 0 ∨ (sN S 1 0 / 8 : Nat) ≤ a.toInt
  · rw [show sShadow S a = (0, sThrow S 1) from zif_pos c]
    refine zM_mono (k_shadow0 G I R.1 a c lim) (fun r h' z => ?_)
    obtain ⟨rfl, rfl⟩ := z
    exact zPub_x R
  · rw [show sShadow S a = (S 4 a.toInt.toNat, sThrow S 0) from zif_neg c]
    refine zM_mono (k_shadow1 G I R.1 a c) (fun r h' z => ?_)
    obtain ⟨rfl, rfl⟩ := z
    exact zPub_k (zSt_T R 0) rfl
theorem kp_peek (G : zG X) (I : sInv S cc) (R : zSt X F o S D W K h p q) (hp : p ≤ 500000 ∧ q ≤ 7000000) (a : Int32) : ZM X MX10_peek 7 290 [.ref o, .int a] h (zPub X F o zIOE zIOE (.int (sPeek S a).1) (sPeek S a).2 (p + 30) (q + 3000)) := by
  have lim := zSt_limA R hp
  rw [show (Value.ref o) = .ref (D 0 0) by rw [R.2.1.1]]
  by_cases c : a.toInt < 0 ∨ (sN S 1 0 : Int) ≤ a.toInt
  · rw [show sPeek S a = (0, sThrow S 1) from zif_pos c]
    refine zM_mono (k_peek0 G I R.1 a c lim) (fun r h' z => ?_)
    obtain ⟨rfl, rfl⟩ := z
    exact zPub_x R
  · rw [show sPeek S a = (S 3 a.toInt.toNat &&& 255, sThrow S 0) from zif_neg c]
    refine zM_mono (k_peek1 G I R.1 a c) (fun r h' z => ?_)
    obtain ⟨rfl, rfl⟩ := z
    exact zPub_k (zSt_T R 0) rfl
theorem kp_held (G : zG X) (I : sInv S cc) (R : zSt X F o S D W K h p q) (hp : p ≤ 500000 ∧ q ≤ 7000000) (a : Int32) : ZM X MX10_held 7 290 [.ref o, .int a] h (zPub X F o zIOE zIOE (.int (sHeld S a).1) (sHeld S a).2 (p + 30) (q + 3000)) := by
  have lim := zSt_limA R hp
  rw [show (Value.ref o) = .ref (D 0 0) by rw [R.2.1.1]]
  by_cases c : a.toInt < 0 ∨ (sN S 25 0 : Int) ≤ a.toInt
  · rw [show sHeld S a = (0, sThrow S 1) from zif_pos c]
    refine zM_mono (k_held0 G I R.1 a c lim) (fun r h' z => ?_)
    obtain ⟨rfl, rfl⟩ := z
    exact zPub_x R
  · rw [show sHeld S a = (S 24 a.toInt.toNat, sThrow S 0) from zif_neg c]
    refine zM_mono (k_held1 G I R.1 a c) (fun r h' z => ?_)
    obtain ⟨rfl, rfl⟩ := z
    exact zPub_k (zSt_T R 0) rfl
theorem kp_report (G : zG X) (I : sInv S cc) (R : zSt X F o S D W K h p q) (hp : p ≤ 500000 ∧ q ≤ 7000000) (a b : Int32) : ZM X MX10_report 7 290 [.ref o, .int a, .int b] h (zPub X F o zIOE zIAE (.int (sReport S a b).1) (sReport S a b).2 (p + 30) (q + 3000)) := by
  have lim := zSt_limA R hp
  rw [show (Value.ref o) = .ref (D 0 0) by rw [R.2.1.1]]
  refine zM_mono (k_report G I R.1 a b lim) (fun r h' z => ?_)
  rcases z with ⟨c1, c2, rfl, rfl⟩ | ⟨c1, rfl, rfl⟩ | ⟨c1, c2, rfl, rfl⟩
  · rw [show sReport S a b = (S 26 (10 * a.toInt.toNat + b.toInt.toNat), sThrow S 0) by unfold sReport; rw [zif_neg c1, zif_neg c2]]
    exact zPub_k (zSt_T R 0) rfl
  · rw [show sReport S a b = (0, sThrow S 1) from zif_pos c1]
    exact zPub_x R
  · rw [show sReport S a b = (0, sThrow S 2) by unfold sReport; rw [zif_neg c1, zif_pos c2]]
    exact zPub_x2 R (by decide)
theorem kp_block (G : zG X) (I : sInv S cc) (R : zSt X F o S D W K h p q) (hp : p ≤ 500000 ∧ q ≤ 7000000) (a b : Int32) : ZM X MX10_block 7 290 [.ref o, .int a, .int b] h (zPub X F o zIOE zIAE (.int (sBlock S a b).1) (sBlock S a b).2 (p + 30) (q + 3000)) := by
  have lim := zSt_limA R hp
  rw [show (Value.ref o) = .ref (D 0 0) by rw [R.2.1.1]]
  refine zM_mono (k_block G I R.1 a b lim) (fun r h' z => ?_)
  rcases z with ⟨c1, c2, rfl, rfl⟩ | ⟨c1, rfl, rfl⟩ | ⟨c1, c2, rfl, rfl⟩
  · rw [show sBlock S a b = (S (sBf b.toInt.toNat) a.toInt.toNat, sThrow S 0) by unfold sBlock; rw [zif_neg c1, zif_neg c2]]
    exact zPub_k (zSt_T R 0) rfl
  · rw [show sBlock S a b = (0, sThrow S 1) from zif_pos c1]
    exact zPub_x R
  · rw [show sBlock S a b = (0, sThrow S 2) by unfold sBlock; rw [zif_neg c1, zif_pos c2]]
    exact zPub_x2 R (by decide)
theorem kp_var (G : zG X) (I : sInv S cc) (R : zSt X F o S D W K h p q) (hp : p ≤ 500000 ∧ q ≤ 7000000) (a b : Int32) : ZM X MX10_variable 8 320 [.ref o, .int a, .int b] h (zPub X F o zIOE zIOE (.int (sVar S a b).1) (sVar S a b).2 (p + 30) (q + 3000)) := by
  have lim := zSt_limA R hp
  rw [show (Value.ref o) = .ref (D 0 0) by rw [R.2.1.1]]
  refine zM_mono (k_variable G I R.1 a b lim) (fun r h' z => ?_)
  rcases z with ⟨c1, rfl, rfl⟩ | ⟨c1, rfl, rfl⟩
  · rw [show sVar S a b = (S 11 (4 * a.toInt.toNat + b.toInt.toNat), sThrow S 0) from zif_neg c1]
    exact zPub_k (zSt_T R 0) rfl
  · rw [show sVar S a b = (0, sThrow S 1) from zif_pos c1]
    exact zPub_x R
theorem kp_lock (G : zG X) (I : sInv S cc) (R : zSt X F o S D W K h p q) (hp : p ≤ 500000 ∧ q ≤ 7000000) (a n : Int32) : ZM X MX10_lock 7 290 [.ref o, .int a, .int n] h (zPub X F o zIAE zIAE (.int (sChange S a n 0 247).1) (sChange S a n 0 247).2 (p + 30) (q + 3000)) := by
  have I' := sInv_T I 0 (by decide)
  have R' := zSt_T R 0
  have Mm := zRel_mem R'.1 I'.2.1
  have lim := zSt_limA R hp
  refine zm_of_z G KX10_lock rfl rfl ?_
  refine z_go 90 rfl ?_
  refine z_cV (zSt_0 R) (k_isC G I R n) KX10_isCount IX10_isCount VX10_isCount rfl rfl rfl PX10_isCount rfl rfl rfl rfl ?_
  refine z_ite (p := sNoA S n) (fun nv => ?_) (fun nv => ?_)
  · rw [zif_pos nv, show sChange S a n 0 247 = (0, sThrow S 1) from zif_pos (Or.inl nv)]
    refine z_br rfl rfl (fun _ => ?_) (fun c => absurd c (by first | decide | (dsimp only; decide)))
    refine z_go 90 rfl ?_
    refine z_cST (c_demand0 G lim) KX10_demand SX10_demand rfl rfl PX10_demand rfl rfl rfl rfl rfl ?_
    exact zPub_x R
  rw [zif_neg nv]
  have nv' := nv
  unfold sNoA at nv'
  refine z_br rfl rfl (fun c => absurd c (by first | decide | (dsimp only; decide))) (fun _ => ?_)
  refine z_go 90 rfl ?_
  refine z_get (zSt_0 R) rfl rfl rfl rfl ?_
  refine z_go 90 rfl ?_
  refine z_cV Mm.1 (c_holds G Mm a n) KX6_holds IX6_holds VX6_holds rfl rfl rfl PX6_holds rfl rfl rfl rfl ?_
  refine z_ite (p := sHolds (sN S 1 0) a n) (fun hh => ?_) (fun hh => ?_)
  · rw [show zif (sHolds (sN (sThrow S 0) 1 0) a n) (1 : Int32) 0 = 1 from zif_pos hh]
    unfold sHolds at hh
    have hb : ¬ sBadC S a n := by unfold sBadC; rintro (z | z); exact nv z; omega
    refine z_br rfl rfl (fun c => absurd c (by first | decide | (dsimp only; decide))) (fun _ => ?_)
    refine z_go 90 rfl ?_
    refine z_cS (c_demand1 G 1 (by decide)) KX10_demand SX10_demand rfl rfl PX10_demand rfl rfl rfl rfl ?_
    refine z_go 90 rfl ?_
    refine z_get (zSt_0 R) rfl rfl rfl rfl ?_
    refine z_go 90 rfl ?_
    have hS : sChange S a n 0 247 = _ := zif_neg hb
    rw [hS]
    obtain ⟨k, rfl, hk⟩ := i_nat (x := n) (by omega)
    rw [i_nI hk] at hh nv'
    rw [n_toNat hk]
    have hx : k = 0 ∨ ∃ b, a = nI b ∧ b + k ≤ sN (sThrow S 0) 1 0 := by
      rcases hh with z | z
      · left; omega
      · obtain ⟨b, rfl, hb9⟩ := i_nat (x := a) (by omega)
        rw [i_nI hb9] at z
        exact Or.inr ⟨b, rfl, by show b + k ≤ sN S 1 0; omega⟩
    refine z_cV Mm.1 (c_exchange G Mm a 0 247 k hx) KX6_exchangeWhole IX6_exchangeWhole VX6_exchangeWhole rfl rfl rfl PX6_exchangeWhole rfl rfl rfl rfl ?_
    exact z_iret rfl rfl (zPub_k (zSt_S R' _) rfl)
  · rw [show zif (sHolds (sN (sThrow S 0) 1 0) a n) (1 : Int32) 0 = 0 from zif_neg hh]
    unfold sHolds at hh
    rw [show sChange S a n 0 247 = (0, sThrow S 1) from zif_pos (Or.inr (by omega))]
    refine z_br rfl rfl (fun _ => ?_) (fun c => absurd c (by first | decide | (dsimp only; decide)))
    refine z_go 90 rfl ?_
    refine z_cST (c_demand0 G lim) KX10_demand SX10_demand rfl rfl PX10_demand rfl rfl rfl rfl rfl ?_
    exact zPub_x R
theorem kp_unlock (G : zG X) (I : sInv S cc) (R : zSt X F o S D W K h p q) (hp : p ≤ 500000 ∧ q ≤ 7000000) (a n : Int32) : ZM X MX10_unlock 7 290 [.ref o, .int a, .int n] h (zPub X F o zIAE zIAE (.int (sChange S a n 247 0).1) (sChange S a n 247 0).2 (p + 30) (q + 3000)) := by
  have I' := sInv_T I 0 (by decide)
  have R' := zSt_T R 0
  have Mm := zRel_mem R'.1 I'.2.1
  have lim := zSt_limA R hp
  refine zm_of_z G KX10_unlock rfl rfl ?_
  refine z_go 90 rfl ?_
  refine z_cV (zSt_0 R) (k_isC G I R n) KX10_isCount IX10_isCount VX10_isCount rfl rfl rfl PX10_isCount rfl rfl rfl rfl ?_
  refine z_ite (p := sNoA S n) (fun nv => ?_) (fun nv => ?_)
  · rw [zif_pos nv, show sChange S a n 247 0 = (0, sThrow S 1) from zif_pos (Or.inl nv)]
    refine z_br rfl rfl (fun _ => ?_) (fun c => absurd c (by first | decide | (dsimp only; decide)))
    refine z_go 90 rfl ?_
    refine z_cST (c_demand0 G lim) KX10_demand SX10_demand rfl rfl PX10_demand rfl rfl rfl rfl rfl ?_
    exact zPub_x R
  rw [zif_neg nv]
  have nv' := nv
  unfold sNoA at nv'
  refine z_br rfl rfl (fun c => absurd c (by first | decide | (dsimp only; decide))) (fun _ => ?_)
  refine z_go 90 rfl ?_
  refine z_get (zSt_0 R) rfl rfl rfl rfl ?_
  refine z_go 90 rfl ?_
  refine z_cV Mm.1 (c_holds G Mm a n) KX6_holds IX6_holds VX6_holds rfl rfl rfl PX6_holds rfl rfl rfl rfl ?_
  refine z_ite (p := sHolds (sN S 1 0) a n) (fun hh => ?_) (fun hh => ?_)
  · rw [show zif (sHolds (sN (sThrow S 0) 1 0) a n) (1 : Int32) 0 = 1 from zif_pos hh]
    unfold sHolds at hh
    have hb : ¬ sBadC S a n := by unfold sBadC; rintro (z | z); exact nv z; omega
    refine z_br rfl rfl (fun c => absurd c (by first | decide | (dsimp only; decide))) (fun _ => ?_)
    refine z_go 90 rfl ?_
    refine z_cS (c_demand1 G 1 (by decide)) KX10_demand SX10_demand rfl rfl PX10_demand rfl rfl rfl rfl ?_
    refine z_go 90 rfl ?_
    refine z_get (zSt_0 R) rfl rfl rfl rfl ?_
    refine z_go 90 rfl ?_
    have hS : sChange S a n 247 0 = _ := zif_neg hb
    rw [hS]
    obtain ⟨k, rfl, hk⟩ := i_nat (x := n) (by omega)
    rw [i_nI hk] at hh nv'
    rw [n_toNat hk]
    have hx : k = 0 ∨ ∃ b, a = nI b ∧ b + k ≤ sN (sThrow S 0) 1 0 := by
      rcases hh with z | z
      · left; omega
      · obtain ⟨b, rfl, hb9⟩ := i_nat (x := a) (by omega)
        rw [i_nI hb9] at z
        exact Or.inr ⟨b, rfl, by show b + k ≤ sN S 1 0; omega⟩
    refine z_cV Mm.1 (c_exchange G Mm a 247 0 k hx) KX6_exchangeWhole IX6_exchangeWhole VX6_exchangeWhole rfl rfl rfl PX6_exchangeWhole rfl rfl rfl rfl ?_
    exact z_iret rfl rfl (zPub_k (zSt_S R' _) rfl)
  · rw [show zif (sHolds (sN (sThrow S 0) 1 0) a n) (1 : Int32) 0 = 0 from zif_neg hh]
    unfold sHolds at hh
    rw [show sChange S a n 247 0 = (0, sThrow S 1) from zif_pos (Or.inr (by omega))]
    refine z_br rfl rfl (fun _ => ?_) (fun c => absurd c (by first | decide | (dsimp only; decide)))
    refine z_go 90 rfl ?_
    refine z_cST (c_demand0 G lim) KX10_demand SX10_demand rfl rfl PX10_demand rfl rfl rfl rfl rfl ?_
    exact zPub_x R
end ZPB
