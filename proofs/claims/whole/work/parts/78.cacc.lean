section ZAC
variable {X : zCx} {F : Nat → Option va_E} {o p q : Nat} {S : zS} {D : Nat → Nat → Nat} {W : Nat → Nat → Int32} {K : Nat → Nat → Nat} {h : zHp} {cc : Nat}
theorem zSt_up (R : zSt X F o S D W K h p q) : zSt X F o S D W K h (p + 30) (q + 3000) := zSt_le R (by omega) (by omega)
theorem zPub_t {v : Value} {E1 E2 : String} {S' : zS} {h' : zHp} (P : ∃ D W K, zSt X F o S' D W K h' (p + 2) (q + 2000)) (e : S' 0 0 = 0) : zPub X F o E1 E2 v S' (p + 30) (q + 3000) (.inl (some v)) h' := by
  obtain ⟨D, W, K, P⟩ := P
  exact ⟨⟨D, W, K, zSt_le P (by omega) (by omega)⟩, Or.inl ⟨e, rfl⟩⟩
theorem zPub_k {v : Value} {E1 E2 : String} (R : zSt X F o S D W K h p q) (e : S 0 0 = 0) : zPub X F o E1 E2 v S (p + 30) (q + 3000) (.inl (some v)) h := ⟨⟨D, W, K, zSt_up R⟩, Or.inl ⟨e, rfl⟩⟩
theorem k_load (G : zG X) (I : sInv S cc) (hcc : cc < 512) (R : zSt X F o S D W K h p q) (hp : p ≤ 500000 ∧ q ≤ 7000000) (a n : Int32) : ZM X MX10_load 9 350 [.ref o, .int a, .int n] h (zPub X F o zIAE zIAE (.long (sLoad S a n).1) (sLoad S a n).2 (p + 30) (q + 3000)) := by
  have I' := sInv_T I 0 (by decide)
  have R' := zSt_T R 0
  have N2 := I.2.1.2.1
  have c4 := I.2.2.2.2.2.2.2.2.2.2.2
  have hc : sN (sThrow S 0) 27 0 < 512 := by show sN S 27 0 < 512; omega
  have Mm := zRel_mem R'.1 I'.2.1
  have lim := zSt_limA R hp
  have t1 : (1 : Int32).toInt = 1 := rfl
  have t8 : (8 : Int32).toInt = 8 := rfl
  refine zm_of_z G KX10_load rfl rfl ?_
  refine z_go 90 rfl ?_
  refine z_br rfl rfl (fun c => ?_) (fun c => ?_) <;> (try dsimp only at c)
  · rw [i_lt] at c
    rw [show sLoad S a n = (0, sThrow S 1) from zif_pos (Or.inl (by omega))]
    refine z_go 90 rfl ?_
    refine z_cST (c_demand0 G lim) KX10_demand SX10_demand rfl rfl PX10_demand rfl rfl rfl rfl rfl ?_
    exact zPub_x R
  rw [i_lt] at c
  refine z_go 90 rfl ?_
  refine z_br rfl rfl (fun d => ?_) (fun d => ?_) <;> (try dsimp only at d)
  · rw [i_lt] at d
    rw [show sLoad S a n = (0, sThrow S 1) from zif_pos (Or.inr (by omega))]
    refine z_go 90 rfl ?_
    refine z_cST (c_demand0 G lim) KX10_demand SX10_demand rfl rfl PX10_demand rfl rfl rfl rfl rfl ?_
    exact zPub_x R
  rw [i_lt] at d
  obtain ⟨k, rfl, hk⟩ := i_nat (x := n) (by omega)
  rw [i_nI hk] at c d
  have hS : sLoad S a (nI k) = (match sFw (sThrow S 0) a 0 k with | none => (sNm S a.toInt.toNat k k, sThrow S 0) | some _ => (0, (sRight (sThrow S 0) a 0 k (nI k) 0).2)) := by
    unfold sLoad
    rw [zif_neg (by rw [i_nI hk]; omega), n_toNat hk]
    rfl
  rw [hS]
  refine z_go 90 rfl ?_
  refine z_cS (c_demand1 G 1 (by decide)) KX10_demand SX10_demand rfl rfl PX10_demand rfl rfl rfl rfl ?_
  refine z_go 90 rfl ?_
  cases hf : sFw (sThrow S 0) a 0 k with
  | none =>
    obtain ⟨b, rfl, hb2, hb3⟩ := sFw_ok hf (by omega)
    refine z_cV (zSt_0 R) (k_per1 G I' R' (nI b) 0 k (by omega) hf) KX10_permits IX10_permits VX10_permits rfl rfl rfl PX10_permits rfl rfl rfl rfl ?_
    refine z_br rfl rfl (fun c => absurd c (by first | decide | (dsimp only; decide))) (fun _ => ?_)
    refine z_go 90 rfl ?_
    refine z_get (zSt_0 R) rfl rfl rfl rfl ?_
    refine z_go 90 rfl ?_
    refine z_cV Mm.1 (c_number G Mm b k hb2) KX6_number IX6_number VX6_number rfl rfl rfl PX6_number rfl rfl rfl rfl ?_
    refine z_go 90 rfl ?_
    exact z_lret rfl rfl (by rw [n_toNat hb3, sNm_T]; exact zPub_k R' rfl)
  | some i =>
    refine z_cVP (zSt_0 R) (k_per0 G I' hc R' hp a 0 k i (by omega) hf (a.toInt + i) (sWr_wrap (by have := sFw_lt hf; omega) N2).symm (w_wrap (by have := sFw_lt hf; omega) N2)) KX10_permits IX10_permits VX10_permits rfl rfl rfl PX10_permits rfl rfl rfl rfl ?_
    intro h1 P1
    refine z_br rfl rfl (fun _ => ?_) (fun c => absurd c (by first | decide | (dsimp only; decide)))
    refine z_go 90 rfl ?_
    rw [sRight_s hf]
    exact z_lret rfl rfl (zPub_t P1 rfl)
theorem k_store (G : zG X) (I : sInv S cc) (hcc : cc < 512) (R : zSt X F o S D W K h p q) (hp : p ≤ 500000 ∧ q ≤ 7000000) (a n : Int32) (v : Int64) : ZM X MX10_store 9 350 [.ref o, .int a, .int n, .long v] h (zPub X F o zIAE zIAE (.int (sStore S a n v).1) (sStore S a n v).2 (p + 30) (q + 3000)) := by
  have I' := sInv_T I 0 (by decide)
  have R' := zSt_T R 0
  have N2 := I.2.1.2.1
  have c4 := I.2.2.2.2.2.2.2.2.2.2.2
  have hc : sN (sThrow S 0) 27 0 < 512 := by show sN S 27 0 < 512; omega
  have Mm := zRel_mem R'.1 I'.2.1
  have lim := zSt_limA R hp
  have t1 : (1 : Int32).toInt = 1 := rfl
  have t8 : (8 : Int32).toInt = 8 := rfl
  refine zm_of_z G KX10_store rfl rfl ?_
  refine z_go 90 rfl ?_
  refine z_br rfl rfl (fun c => ?_) (fun c => ?_) <;> (try dsimp only at c)
  · rw [i_lt] at c
    rw [show sStore S a n v = (0, sThrow S 1) from zif_pos (Or.inl (by omega))]
    refine z_go 90 rfl ?_
    refine z_cST (c_demand0 G lim) KX10_demand SX10_demand rfl rfl PX10_demand rfl rfl rfl rfl rfl ?_
    exact zPub_x R
  rw [i_lt] at c
  refine z_go 90 rfl ?_
  refine z_br rfl rfl (fun d => ?_) (fun d => ?_) <;> (try dsimp only at d)
  · rw [i_lt] at d
    rw [show sStore S a n v = (0, sThrow S 1) from zif_pos (Or.inr (by omega))]
    refine z_go 90 rfl ?_
    refine z_cST (c_demand0 G lim) KX10_demand SX10_demand rfl rfl PX10_demand rfl rfl rfl rfl rfl ?_
    exact zPub_x R
  rw [i_lt] at d
  obtain ⟨k, rfl, hk⟩ := i_nat (x := n) (by omega)
  rw [i_nI hk] at c d
  have hS : sStore S a (nI k) v = (match sFw (sThrow S 0) a 0 k with | none => (1, sMw (sThrow S 0) a.toInt.toNat k (sByt v)) | some _ => (0, (sRight (sThrow S 0) a 0 k (nI k) 1).2)) := by
    unfold sStore
    rw [zif_neg (by rw [i_nI hk]; omega), n_toNat hk]
    rfl
  rw [hS]
  refine z_go 90 rfl ?_
  refine z_cS (c_demand1 G 1 (by decide)) KX10_demand SX10_demand rfl rfl PX10_demand rfl rfl rfl rfl ?_
  refine z_go 90 rfl ?_
  cases hf : sFw (sThrow S 0) a 0 k with
  | none =>
    obtain ⟨b, rfl, hb2, hb3⟩ := sFw_ok hf (by omega)
    refine z_cV (zSt_0 R) (k_per1 G I' R' (nI b) 1 k (by omega) hf) KX10_permits IX10_permits VX10_permits rfl rfl rfl PX10_permits rfl rfl rfl rfl ?_
    refine z_br rfl rfl (fun _ => ?_) (fun c => absurd c (by first | decide | (dsimp only; decide)))
    refine z_go 90 rfl ?_
    refine z_get (zSt_0 R) rfl rfl rfl rfl ?_
    refine z_go 90 rfl ?_
    refine z_cV Mm.1 (c_setNumber G Mm b k v hb2) KX6_setNumber IX6_setNumber VX6_setNumber rfl rfl rfl PX6_setNumber rfl rfl rfl rfl ?_
    refine z_go 90 rfl ?_
    exact z_zret rfl rfl rfl (by rw [n_toNat hb3]; exact zPub_k (zSt_B R' _) rfl)
  | some i =>
    refine z_cVP (zSt_0 R) (k_per0 G I' hc R' hp a 1 k i (by omega) hf (a.toInt + i) (sWr_wrap (by have := sFw_lt hf; omega) N2).symm (w_wrap (by have := sFw_lt hf; omega) N2)) KX10_permits IX10_permits VX10_permits rfl rfl rfl PX10_permits rfl rfl rfl rfl ?_
    intro h1 P1
    refine z_br rfl rfl (fun c => absurd c (by first | decide | (dsimp only; decide))) (fun _ => ?_)
    refine z_go 90 rfl ?_
    rw [sRight_s hf]
    exact z_zret rfl rfl rfl (zPub_t P1 rfl)
theorem k_fill (G : zG X) (I : sInv S cc) (hcc : cc < 512) (R : zSt X F o S D W K h p q) (hp : p ≤ 500000 ∧ q ≤ 7000000) (a n v : Int32) : ZM X MX10_fill 9 350 [.ref o, .int a, .int n, .int v] h (zPub X F o zIAE zIAE (.int (sFill S a n v).1) (sFill S a n v).2 (p + 30) (q + 3000)) := by
  have I' := sInv_T I 0 (by decide)
  have R' := zSt_T R 0
  have N2 := I.2.1.2.1
  have c4 := I.2.2.2.2.2.2.2.2.2.2.2
  have hc : sN (sThrow S 0) 27 0 < 512 := by show sN S 27 0 < 512; omega
  have Mm := zRel_mem R'.1 I'.2.1
  have lim := zSt_limA R hp
  have ho := R.2.1.1
  refine zm_of_z G KX10_fill rfl rfl ?_
  refine z_go 90 rfl ?_
  refine z_cV (zSt_0 R) (k_isC G I R n) KX10_isCount IX10_isCount VX10_isCount rfl rfl rfl PX10_isCount rfl rfl rfl rfl ?_
  refine z_ite (p := sNoA S n) (fun nv => ?_) (fun nv => ?_)
  · rw [zif_pos nv, show sFill S a n v = (0, sThrow S 1) from zif_pos nv]
    refine z_cST (c_demand0 G lim) KX10_demand SX10_demand rfl rfl PX10_demand rfl rfl rfl rfl rfl ?_
    exact zPub_x R
  rw [zif_neg nv]
  have nv' := nv
  unfold sNoA at nv'
  obtain ⟨k, rfl, hk⟩ := i_nat (x := n) (by omega)
  rw [i_nI hk] at nv'
  have hS : sFill S a (nI k) v = (match sFw (sThrow S 0) a 0 k with | none => (1, sMw (sThrow S 0) a.toInt.toNat k (fun _ => v.toInt8.toInt32)) | some _ => (0, (sRight (sThrow S 0) a 0 k (nI k) 1).2)) := by
    unfold sFill
    rw [zif_neg nv, n_toNat hk]
    rfl
  rw [hS]
  refine z_cS (c_demand1 G 1 (by decide)) KX10_demand SX10_demand rfl rfl PX10_demand rfl rfl rfl rfl ?_
  refine z_go 90 rfl ?_
  cases hf : sFw (sThrow S 0) a 0 k with
  | none =>
    refine z_cV (zSt_0 R) (k_per1 G I' R' a 1 k (by omega) hf) KX10_permits IX10_permits VX10_permits rfl rfl rfl PX10_permits rfl rfl rfl rfl ?_
    refine z_br rfl rfl (fun _ => ?_) (fun c => absurd c (by first | decide | (dsimp only; decide)))
    refine z_go 90 rfl ?_
    refine z_get (zSt_0 R) rfl rfl rfl rfl ?_
    refine z_go 90 rfl ?_
    have hx : k = 0 ∨ ∃ b, a = nI b ∧ b + k ≤ sN (sThrow S 0) 1 0 := by
      rcases Nat.eq_zero_or_pos k with z | z
      · exact Or.inl z
      · obtain ⟨b, hb1, hb2, hb3⟩ := sFw_ok hf z
        exact Or.inr ⟨b, hb1, hb2⟩
    refine z_cV Mm.1 (c_setBytes G Mm a v k hx) KX6_setBytes IX6_setBytes VX6_setBytes rfl rfl rfl PX6_setBytes rfl rfl rfl rfl ?_
    refine z_go 90 rfl ?_
    exact z_zret rfl rfl rfl (zPub_k (zSt_B R' _) rfl)
  | some i =>
    refine z_cVP (zSt_0 R) (k_per0 G I' hc R' hp a 1 k i (by omega) hf (a.toInt + i) (sWr_wrap (by have := sFw_lt hf; omega) N2).symm (w_wrap (by have := sFw_lt hf; omega) N2)) KX10_permits IX10_permits VX10_permits rfl rfl rfl PX10_permits rfl rfl rfl rfl ?_
    intro h1 P1
    refine z_br rfl rfl (fun c => absurd c (by first | decide | (dsimp only; decide))) (fun _ => ?_)
    refine z_go 90 rfl ?_
    rw [sRight_s hf]
    exact z_zret rfl rfl rfl (zPub_t P1 rfl)
end ZAC
