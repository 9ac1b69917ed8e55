section ZLV
variable {X : zCx} {F : Nat → Option va_E} {o p q : Nat} {S : zS} {D : Nat → Nat → Nat} {W : Nat → Nat → Int32} {K : Nat → Nat → Nat} {h : zHp} {cc : Nat}
abbrev zISE : String := "java/lang/IllegalStateException"
theorem zRem_last {g : Nat → Option Nat} {n j : Nat} (hn : 0 < n) : zRem g (n - 1) n j = if j = n - 1 then none else g j := by
  unfold zRem
  show (if j = n - 1 then none else va_cpy g g (n - 1 + 1) (n - 1) (n - 1 - (n - 1)) j) = _
  by_cases c : j = n - 1
  · rw [if_pos c, if_pos c]
  · rw [if_neg c, if_neg c]
    unfold va_cpy
    rw [if_neg (by omega)]
/-- the last frame is taken away -/
theorem zSt_pop (R : zSt X F o S D W K h p q) (I0 : sI0 S) (hn : 0 < sN S 14 0) : zSt X F o (zV S 14 (fun _ => nI (sN S 14 0 - 1))) D (u2 W 9 0 (W 9 0 + 1)) K (zset (zset h (D 10 0) (zOb X (K 10 0) (zRem (zes S D K 9 0) (sN S 14 0 - 1) (sN S 14 0)))) (D 9 0) (zLc (W 9 0 + 1) (D 10 0) (sN S 14 0 - 1))) p q := by
  have A := R.1.2.2 9 0 (Or.inl ⟨rfl, by decide⟩)
  have A2 : sN S 14 0 ≤ K 10 0 := A.2.1
  have l14 := sN_lt I0 (k := 14) (i := 0) rfl
  have w2 := zW_put (zW_put (zSt_W R) (r := 10) (i := 0) (Or.inl ⟨rfl, by omega⟩) (zOb X (K 10 0) (zRem (zes S D K 9 0) (sN S 14 0 - 1) (sN S 14 0)))) (r := 9) (i := 0) (Or.inl ⟨rfl, by decide⟩) (zLc (W 9 0 + 1) (D 10 0) (sN S 14 0 - 1))
  obtain ⟨S', eS⟩ : ∃ S', S' = zV S 14 (fun _ => nI (sN S 14 0 - 1)) := ⟨_, rfl⟩
  have e14 : sN S' 14 0 = sN S 14 0 - 1 := by
    rw [eS]
    show (zV S 14 (fun _ => nI (sN S 14 0 - 1)) 14 0).toInt.toNat = _
    rw [zV_at]
    exact n_toNat (by omega)
  have hS : ∀ k, zno [14] k → S' k = S k := fun k ⟨a, _⟩ => by
    rw [eS]
    simp only [zV, a]
  rw [← eS]
  have aff : ∀ r, r < 28 → zhk [14] [] [9] [] r = false → r = 9 ∨ r = 10 ∨ r = 11 ∨ r = 12 ∨ r = 13 ∨ r = 14 := by decide
  have e10 : S' 10 = S 10 := hS 10 ⟨rfl, trivial⟩
  have a10 : ∀ i, sN S' 10 i = sN S 10 i := fun i => by unfold sN; rw [e10]
  refine zSt_mk [14] [] [9] [] R w2 hS (fun _ _ => rfl) (fun k ⟨a, _⟩ => by simp only [u2, a]) (fun _ _ => rfl) (zK1_u rfl (zK1_u rfl zK1_r)) (fun r i h28 hc hv => ?_) (fun r i h28 hc hl => ?_) rfl (fun j hj => by unfold sN; rw [hS 23 ⟨rfl, trivial⟩]; exact R.2.2.1 j hj) R.2.2.2.2
  · rcases aff r h28 hc with rfl | rfl | rfl | rfl | rfl | rfl
    · obtain ⟨rfl, -⟩ := id hv
      refine ⟨Or.inl ⟨rfl, by decide⟩, ?_⟩
      rw [u2_at]
      show zLc (W 9 0 + 1) (D 10 0) (sN S 14 0 - 1) = zLc (W 9 0 + 1) (D 10 0) (sN S' 14 0)
      rw [e14]
    · obtain ⟨rfl, hv2⟩ := id hv
      refine ⟨Or.inl ⟨rfl, hv2⟩, ?_⟩
      show zOb X (K 10 0) (zRem (zes S D K 9 0) (sN S 14 0 - 1) (sN S 14 0)) = zOb X (K 10 0) (zes S' D K 9 0)
      refine congrArg (zOb X (K 10 0)) (funext fun j => ?_)
      rw [zRem_last hn]
      show _ = if j < sN S' 14 0 then some (D 11 j) else none
      rw [e14]
      show (if j = sN S 14 0 - 1 then none else if j < sN S 14 0 then some (D 11 j) else none) = _
      by_cases c : j = sN S 14 0 - 1
      · rw [if_pos c, if_neg (by omega)]
      · rw [if_neg c]
        by_cases c2 : j < sN S 14 0
        · rw [if_pos c2, if_pos (by omega)]
        · rw [if_neg c2, if_neg (by omega)]
    · have hv2 : i < sN S' 14 0 := hv
      rw [e14] at hv2
      refine ⟨Or.inl (show i < sN S 14 0 by omega), ?_⟩
      show zce X S D W K 11 i = zce X S' D (u2 W 9 0 (W 9 0 + 1)) K 11 i
      exact zce_11 (hS 8 ⟨rfl, trivial⟩) (hS 9 ⟨rfl, trivial⟩) rfl i
    · have hv2 : i < sN S' 14 0 := hv
      rw [e14] at hv2
      refine ⟨Or.inl (show i < sN S 14 0 by omega), ?_⟩
      show zce X S D W K 12 i = zce X S' D (u2 W 9 0 (W 9 0 + 1)) K 12 i
      refine zce_12 e10 ?_ ?_ i <;> rfl
    · have hv2 : i < sN S' 14 0 ∧ 0 < K 13 i := hv
      rw [e14] at hv2
      refine ⟨Or.inl (show i < sN S 14 0 ∧ 0 < K 13 i by omega), ?_⟩
      show zce X S D W K 13 i = zce X S' D (u2 W 9 0 (W 9 0 + 1)) K 13 i
      exact zce_13 e10 rfl rfl i
    · have hv2 : i < 4 * sN S' 14 0 ∧ i % 4 < sN S' 10 (i / 4) := hv
      rw [e14, a10] at hv2
      refine ⟨Or.inl (show i < 4 * sN S 14 0 ∧ i % 4 < sN S 10 (i / 4) by omega), ?_⟩
      show zce X S D W K 14 i = zce X S' D (u2 W 9 0 (W 9 0 + 1)) K 14 i
      exact zce_14 (hS 11 ⟨rfl, trivial⟩) (hS 12 ⟨rfl, trivial⟩) (hS 13 ⟨rfl, trivial⟩) i
  · rcases aff r h28 hc with rfl | rfl | rfl | rfl | rfl | rfl
    · obtain ⟨rfl, -⟩ : i = 0 ∧ True := by rcases hl with ⟨z, -⟩ | ⟨z, -⟩ <;> first | exact ⟨z, trivial⟩ | omega
      refine ⟨A.1, ?_, A.2.2⟩
      show sN S' 14 0 ≤ K 10 0
      omega
    · rcases hl with ⟨-, z⟩ | ⟨z, -⟩ <;> omega
    · rcases hl with ⟨-, z⟩ | ⟨z, -⟩ <;> omega
    · have hi : i < sN S 14 0 := by
        rcases hl with ⟨-, z⟩ | ⟨-, z⟩
        · omega
        · rw [e14] at z
          omega
      have := R.1.2.2 12 i (Or.inr ⟨rfl, hi⟩)
      refine ⟨this.1, ?_, this.2.2⟩
      show sN S' 10 i ≤ K 13 i
      rw [a10]
      exact this.2.1
    · rcases hl with ⟨-, z⟩ | ⟨z, -⟩ <;> omega
    · rcases hl with ⟨-, z⟩ | ⟨z, -⟩ <;> omega
theorem k_pop (G : zG X) (I : sInv S cc) (R : zSt X F o S D W K h p q) (hn : 0 < sN S 14 0) : ZM X MX2_pop 4 220 [.ref (D 8 0)] h (fun r h' => r = .inl none ∧ ∃ W', zSt X F o (sPaint (zV S 14 (fun _ => nI (sN S 14 0 - 1))) (sN S 8 (sN S 14 0 - 1)) (sN S 9 (sN S 14 0 - 1)) 245) D W' K h' p q) := by
  obtain ⟨I0, In, Ig, If, Ib, Iq, Ih, Im, c1, c2, c3, c4⟩ := id I
  have f1 := If.1
  have f2 := If.2 (sN S 14 0 - 1) (by omega)
  have h9 : sN S 9 (sN S 14 0 - 1) ≤ sN S 1 0 := by
    have q4 := f2.2.2.2.1
    by_cases c : sN S 14 0 - 1 = 0
    · rw [if_pos c] at q4; omega
    · rw [if_neg c] at q4
      have := (If.2 (sN S 14 0 - 1 - 1) (by omega)).2.1
      omega
  have h8 := R.1.1 8 0 ⟨rfl, by decide⟩
  have A : zAl X h (D 9 0) (D 10 0) (W 9 0) (sN S 14 0) (K 10 0) (zes S D K 9 0) := zRel_al R.1 (r := 9) (i := 0) (Or.inl ⟨rfl, by decide⟩)
  have hls : zls S 9 0 := Or.inl ⟨rfl, by decide⟩
  have hfr := R.1.1 11 (sN S 14 0 - 1) (show sN S 14 0 - 1 < sN S 14 0 by omega)
  have R1 := zSt_pop R I0 hn
  have Mm := zRel_mem R1.1 In
  have n10 : D 11 (sN S 14 0 - 1) ≠ D 10 0 := fun z => by have := (R.1.2.1 11 (sN S 14 0 - 1) 10 0 (show sN S 14 0 - 1 < sN S 14 0 by omega) ⟨rfl, by have := A.2.2.1; omega⟩ z).1; omega
  have n9 : D 11 (sN S 14 0 - 1) ≠ D 9 0 := fun z => by have := (R.1.2.1 11 (sN S 14 0 - 1) 9 0 (show sN S 14 0 - 1 < sN S 14 0 by omega) ⟨rfl, by decide⟩ z).1; omega
  have m10 : D 8 0 ≠ D 10 0 := fun z => by have := (R.1.2.1 8 0 10 0 ⟨rfl, by decide⟩ ⟨rfl, by have := A.2.2.1; omega⟩ z).1; omega
  have m9 : D 8 0 ≠ D 9 0 := fun z => by have := (R.1.2.1 8 0 9 0 ⟨rfl, by decide⟩ ⟨rfl, by decide⟩ z).1; omega
  refine zm_of_z G KX2_pop rfl rfl ?_
  refine z_go 90 rfl ?_
  refine z_cV h8 (k_count G I R.1) KX2_count IX2_count VX2_count rfl rfl rfl PX2_count rfl rfl rfl rfl ?_
  refine z_br rfl rfl (fun c => absurd c (by
    show ¬ nI (sN S 14 0) ≤ nI 0
    rw [n_le (by omega) (by omega)]
    omega)) (fun _ => ?_)
  refine z_go 90 rfl ?_
  refine z_get h8 rfl rfl rfl rfl ?_
  refine z_go 90 rfl ?_
  refine z_cV h8 (k_count G I R.1) KX2_count IX2_count VX2_count rfl rfl rfl PX2_count rfl rfl rfl rfl ?_
  refine z_go 90 rfl ?_
  rw [show nI (sN S 14 0) - (1 : Int32) = nI (sN S 14 0 - 1) from n_sub (b := 1) (by omega) (by omega)]
  refine z_cV A.1 (c_remove G (b := D 11 (sN S 14 0 - 1)) (i := sN S 14 0 - 1) A (by omega) (zRel_el R.1 I R.2.2.1 hls) (if_pos (by show sN S 14 0 - 1 < sN S 14 0; omega))) KJx4a65c_remove_915e3 IJx4a65c_remove_915e3 VJx4a65c_remove_915e3 rfl rfl rfl PJx4a65c_remove_915e3 rfl rfl rfl rfl ?_
  have hfr2 : (zset (zset h (D 10 0) (zOb X (K 10 0) (zRem (zes S D K 9 0) (sN S 14 0 - 1) (sN S 14 0)))) (D 9 0) (zLc (W 9 0 + 1) (D 10 0) (sN S 14 0 - 1))).1 (D 11 (sN S 14 0 - 1)) = some (zce X S D W K 11 (sN S 14 0 - 1)) := by
    rw [zset_ne _ _ n9, zset_ne _ _ n10]
    exact hfr
  have h82 : (zset (zset h (D 10 0) (zOb X (K 10 0) (zRem (zes S D K 9 0) (sN S 14 0 - 1) (sN S 14 0)))) (D 9 0) (zLc (W 9 0 + 1) (D 10 0) (sN S 14 0 - 1))).1 (D 8 0) = some (zce X S D W K 8 0) := by
    rw [zset_ne _ _ m9, zset_ne _ _ m10]
    exact h8
  refine z_cast hfr2 rfl rfl (by decide +kernel) ?_
  refine z_go 90 rfl ?_
  refine z_get h82 rfl rfl rfl rfl ?_
  refine z_go 90 rfl ?_
  refine z_get hfr2 rfl rfl rfl rfl ?_
  refine z_go 90 rfl ?_
  refine z_get hfr2 rfl rfl rfl rfl ?_
  refine z_go 90 rfl ?_
  refine z_cV Mm.1 (c_paint G Mm (sN S 8 (sN S 14 0 - 1)) (sN S 9 (sN S 14 0 - 1) - sN S 8 (sN S 14 0 - 1)) 245 (by show _ ≤ sN S 1 0; omega)) KX6_paint IX6_paint VX6_paint rfl rfl rfl PX6_paint rfl rfl rfl rfl ?_
  rw [show sN S 8 (sN S 14 0 - 1) + (sN S 9 (sN S 14 0 - 1) - sN S 8 (sN S 14 0 - 1)) = sN S 9 (sN S 14 0 - 1) by omega]
  exact z_vret rfl rfl ⟨rfl, _, zSt_S R1 _⟩
theorem k_leave (G : zG X) (I : sInv S cc) (hcc : cc < 512) (R : zSt X F o S D W K h p q) (hp : p ≤ 500000 ∧ q ≤ 7000000) : ZM X MX10_leave 6 270 [.ref o] h (zPub X F o zISE zISE (.int (sLeave S).1) (sLeave S).2 (p + 30) (q + 3000)) := by
  have I' := sInv_T I 0 (by decide)
  have R' := zSt_T R 0
  obtain ⟨I0, In, Ig, If, -⟩ := id I
  have f1 := If.1
  have lim := zSt_limA R hp
  have h8 := R.1.1 8 0 ⟨rfl, by decide⟩
  obtain ⟨sa, hs⟩ := zst_str G zsr_81 zsx_81
  refine zm_of_z G KX10_leave rfl rfl ?_
  refine z_go 90 rfl ?_
  refine z_get (zSt_0 R) rfl rfl rfl rfl ?_
  refine z_cV h8 (k_count G I R.1) KX2_count IX2_count VX2_count rfl rfl rfl PX2_count rfl rfl rfl rfl ?_
  refine z_ite (p := sN S 14 0 = 0) (fun e => ?_) (fun e => ?_)
  · rw [show sLeave S = (0, sThrow S 1) from if_pos e, e]
    refine z_br rfl rfl (fun c => absurd rfl c) (fun _ => ?_)
    exact z_throw (E := zISE) rfl rfl rfl rfl rfl rfl rfl hs zth_S zti_S (by decide +kernel) rfl rfl lim (zPub_x R)
  · rw [show sLeave S = _ from if_neg e]
    refine z_br rfl rfl (fun _ => ?_) (fun c => absurd c (by
      show ¬ nI (sN S 14 0) = nI 0
      exact (fun z => e ((n_eq (by omega) (by omega)).mp z))))
    refine z_go 90 rfl ?_
    refine z_get (zSt_0 R) rfl rfl rfl rfl ?_
    refine z_cVP h8 (k_pop G I' R' (by show 0 < sN S 14 0; omega)) KX2_pop IX2_pop VX2_pop rfl rfl rfl PX2_pop rfl rfl rfl rfl ?_
    intro h1 P1
    obtain ⟨W1, P1⟩ := P1
    have J : sInv (sLeave S).2 (cc + 1) := sLeave_inv I hcc
    rw [show sLeave S = _ from if_neg e] at J
    have h81 := P1.1.1 8 0 ⟨rfl, by decide⟩
    refine z_go 90 rfl ?_
    refine z_get (zSt_0 P1) rfl rfl rfl rfl ?_
    refine z_cV h81 (k_count G J P1.1) KX2_count IX2_count VX2_count rfl rfl rfl PX2_count rfl rfl rfl rfl ?_
    have e14 : sN (sPaint (zV (sThrow S 0) 14 (fun _ => nI (sN S 14 0 - 1))) (sN S 8 (sN S 14 0 - 1)) (sN S 9 (sN S 14 0 - 1)) 245) 14 0 = sN S 14 0 - 1 := n_toNat (by omega)
    rw [e14]
    exact z_iret rfl rfl (zPub_k P1 rfl)
end ZLV
