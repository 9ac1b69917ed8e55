section ZAL2
variable {X : zCx} {F : Nat → Option va_E} {o p q : Nat} {S : zS} {D : Nat → Nat → Nat} {W : Nat → Nat → Int32} {K : Nat → Nat → Nat} {h : zHp} {cc : Nat}
theorem sMake_0 (n : Nat) : ∀ (k : Nat) (S : zS), (sMake n k S).1 0 = S 0 := by
  intro k
  induction k with
  | zero => intro S; rfl
  | succ k ih =>
    intro S
    unfold sMake
    cases hq : sPlace S n with
    | some a => rfl
    | none => exact ih (sOld S)
theorem sGivenB_0 (S : zS) (kd : Int32) (n : Nat) (site : Int32) : (sGivenB S kd n site).2 0 = S 0 := by
  unfold sGivenB
  cases (sMake (sCh n) (sN S 25 0) S).2 with
  | none => exact sMake_0 _ _ _
  | some a => exact sMake_0 (sCh n) (sN S 25 0) S
theorem k_allocB (G : zG X) (I : sInv S cc) (R : zSt X F o S D W K h p q) (hp : p ≤ 500000 ∧ q ≤ 7000000) (hnb : sN S 23 0 < 512) (kd site : Int32) (hk : 0 ≤ kd.toInt ∧ kd.toInt ≤ 2) (n : Nat) (hn : n ≤ sN S 1 0) {Q : zRs → zHp → Prop} (hQ : ∀ r h', zPo X F o (some (.int (sGivenB S kd n site).1)) (sGivenB S kd n site).2 (p + 2) (q + 2000) r h' → Q r h') : ZM X MX10_allocate 8 320 [.ref o, .int kd, .int (nI n), .int site] h Q := by
  have N2 := I.2.1.2.1
  have nv : ¬ sNoA S (nI n) := by
    unfold sNoA
    rw [i_nI (by omega)]
    omega
  have hrd : sRed n ≤ 128 := by unfold sRed; split <;> (try split) <;> (try split) <;> omega
  refine zm_of_z G KX10_allocate rfl rfl ?_
  refine z_go 90 rfl ?_
  refine z_cS (c_isKind G kd) KX10_isBlockKind SX10_isBlockKind rfl rfl PX10_isBlockKind rfl rfl rfl rfl ?_
  rw [if_pos hk]
  refine z_cS (c_demand1 G 1 (by decide)) KX10_demand SX10_demand rfl rfl PX10_demand rfl rfl rfl rfl ?_
  refine z_go 90 rfl ?_
  refine z_cV (zSt_0 R) (k_isC G I R (nI n)) KX10_isCount IX10_isCount VX10_isCount rfl rfl rfl PX10_isCount rfl rfl rfl rfl ?_
  rw [zif_neg nv]
  refine z_cS (c_demand1 G 1 (by decide)) KX10_demand SX10_demand rfl rfl PX10_demand rfl rfl rfl rfl ?_
  refine z_go 90 rfl ?_
  refine z_get (zSt_0 R) rfl rfl rfl rfl ?_
  refine z_go 90 rfl ?_
  refine z_cVE (zRel_15 R.1) (k_give G I R hp hnb kd site n hn) KX4_give IX4_give VX4_give rfl rfl rfl PX4_give rfl rfl rfl rfl ?_
  intro v h1 P1
  obtain ⟨J1, J2, J3, J4⟩ := sMake_inv (n := sCh n) (sN S 25 0) S I rfl
  unfold sGivenB at hQ
  rcases P1 with ⟨g1, rfl, W', R'⟩ | ⟨a, D', W', K', g1, rfl, g2, g3, g4, R'⟩
  · rw [g1] at hQ
    refine z_go 90 rfl ?_
    exact z_iret rfl rfl (hQ _ _ ⟨rfl, D, W', K, zSt_le R' (by omega) (by omega)⟩)
  · rw [g1] at hQ
    dsimp only at hQ
    obtain ⟨i, ea, ea2, -⟩ := sPlace_some (by rw [← J2]; exact g1)
    obtain ⟨s23, s19, s20, s15, -⟩ := sGive_at (sMake (sCh n) (sN S 25 0) S).1 kd n site a (by omega) (by omega) (by omega) (sN S 23 0)
    rw [J4, if_pos rfl] at s15
    have hb := R'.1.1 18 (sN S 23 0) (show sN S 23 0 < sN (sGive (sMake (sCh n) (sN S 25 0) S).1 kd n site a) 23 0 by omega)
    refine z_go 90 rfl ?_
    refine z_get hb rfl rfl rfl rfl ?_
    rw [s15]
    exact z_iret rfl rfl (hQ _ _ ⟨rfl, D', W', K', R'⟩)
theorem k_alloc (G : zG X) (I : sInv S cc) (hcc : cc < 512) (R : zSt X F o S D W K h p q) (hp : p ≤ 500000 ∧ q ≤ 7000000) (kd n site : Int32) : ZM X MX10_allocate 8 320 [.ref o, .int kd, .int n, .int site] h (zPub X F o zIAE zIAE (.int (sAlloc S kd n site).1) (sAlloc S kd n site).2 (p + 30) (q + 3000)) := by
  have I' := sInv_T I 0 (by decide)
  have R' := zSt_T R 0
  have lim := zSt_limA R hp
  have c2 := I.2.2.2.2.2.2.2.2.2.1
  by_cases hk : 0 ≤ kd.toInt ∧ kd.toInt ≤ 2
  · by_cases nv : sNoA S n
    · have hb : sBadA S kd n := by
        unfold sNoA at nv
        unfold sBadA
        omega
      rw [show sAlloc S kd n site = (0, sThrow S 1) from zif_pos hb]
      refine zm_of_z G KX10_allocate rfl rfl ?_
      refine z_go 90 rfl ?_
      refine z_cS (c_isKind G kd) KX10_isBlockKind SX10_isBlockKind rfl rfl PX10_isBlockKind rfl rfl rfl rfl ?_
      rw [if_pos hk]
      refine z_cS (c_demand1 G 1 (by decide)) KX10_demand SX10_demand rfl rfl PX10_demand rfl rfl rfl rfl ?_
      refine z_go 90 rfl ?_
      refine z_cV (zSt_0 R) (k_isC G I R n) KX10_isCount IX10_isCount VX10_isCount rfl rfl rfl PX10_isCount rfl rfl rfl rfl ?_
      rw [zif_pos nv]
      refine z_cST (c_demand0 G lim) KX10_demand SX10_demand rfl rfl PX10_demand rfl rfl rfl rfl rfl ?_
      exact zPub_x R
    · have nv' := nv
      unfold sNoA at nv'
      have hb : ¬ sBadA S kd n := by
        unfold sBadA
        omega
      obtain ⟨k, rfl, hk9⟩ := i_nat (x := n) (by omega)
      rw [i_nI hk9] at nv'
      have e : sAlloc S kd (nI k) site = sGivenB (sThrow S 0) kd k site := by
        unfold sAlloc
        rw [zif_neg hb, n_toNat hk9]
      rw [e]
      refine k_allocB G I' R' hp (by show sN S 23 0 < 512; omega) kd site hk k (by show k ≤ sN S 1 0; omega) (fun r h' P => ?_)
      obtain ⟨rfl, P⟩ := P
      exact zPub_t P (by rw [sGivenB_0]; rfl)
  · have hb : sBadA S kd n := by
      unfold sBadA
      omega
    rw [show sAlloc S kd n site = (0, sThrow S 1) from zif_pos hb]
    refine zm_of_z G KX10_allocate rfl rfl ?_
    refine z_go 90 rfl ?_
    refine z_cS (c_isKind G kd) KX10_isBlockKind SX10_isBlockKind rfl rfl PX10_isBlockKind rfl rfl rfl rfl ?_
    rw [if_neg hk]
    refine z_cST (c_demand0 G lim) KX10_demand SX10_demand rfl rfl PX10_demand rfl rfl rfl rfl rfl ?_
    exact zPub_x R
end ZAL2
