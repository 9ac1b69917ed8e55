section ZCP
variable {X : zCx} {F : Nat → Option va_E} {o p q : Nat} {S : zS} {D : Nat → Nat → Nat} {W : Nat → Nat → Int32} {K : Nat → Nat → Nat} {h : zHp} {cc : Nat}
theorem l_i2l (x : Int32) : x.toInt64.toInt = x.toInt := Int32.toInt_toInt64 x
/-- the rows lie on each other -/
theorem w_abs (a b : Int32) (n : Nat) (hn : n ≤ 10000) : (if a.toInt64 - b.toInt64 < 0 then -(a.toInt64 - b.toInt64) else a.toInt64 - b.toInt64) < (nI n).toInt64 ↔ (a.toInt - b.toInt < n ∧ b.toInt - a.toInt < n) := by
  have ra := i_rng a
  have rb := i_rng b
  have e : (a.toInt64 - b.toInt64).toInt = a.toInt - b.toInt := by
    rw [Int64.toInt_sub, l_i2l, l_i2l, Int.bmod_def]
    omega
  have en : (nI n).toInt64.toInt = n := by rw [l_i2l, i_nI (by omega)]
  have e0 : (0 : Int64).toInt = 0 := rfl
  rw [Int64.lt_iff_toInt_lt, en]
  by_cases c : a.toInt64 - b.toInt64 < 0
  · rw [if_pos c]
    rw [Int64.lt_iff_toInt_lt, e, e0] at c
    rw [Int64.toInt_neg, e, Int.bmod_def]
    omega
  · rw [if_neg c]
    rw [Int64.lt_iff_toInt_lt, e, e0] at c
    rw [e]
    omega
theorem zSt_cop (R : zSt X F o S D W K h p q) (a b : Int32) (n : Nat) : zSt X F o (sCopied S a b n) D W K (zset h (D 2 0) (zI X (sN S 1 0) (gM (sMw S a.toInt.toNat n (fun i => S 3 (b.toInt.toNat + i)))))) p q := zSt_B (zSt_29 R _) _
/-- copy, past its demand -/
theorem k_copyB (G : zG X) (I : sInv S cc) (hc : sN S 27 0 < 512) (R : zSt X F o S D W K h p q) (hp : p ≤ 500000 ∧ q ≤ 7000000) (a b w : Int32) (n : Nat) (hn : n ≤ sN S 1 0) (hw : w = 0 ∨ w = 1) {Q : zRs → zHp → Prop} (hQ : ∀ r h', zPo X F o (some (.int (sCopies S a b w n).1)) (sCopies S a b w n).2 (p + 2) (q + 2000) r h' → Q r h') : ZM X MX10_copy 9 350 [.ref o, .int a, .int b, .int (nI n), .int w] h Q := by
  have N2 := I.2.1.2.1
  have Mm := zRel_mem R.1 I.2.1
  have ho := R.2.1.1
  have nv : ¬ sNoA S (nI n) := by
    unfold sNoA
    rw [i_nI (by omega)]
    omega
  refine zm_of_z G KX10_copy rfl rfl ?_
  refine z_go 90 rfl ?_
  refine z_cV (zSt_0 R) (k_isC G I R (nI n)) KX10_isCount IX10_isCount VX10_isCount rfl rfl rfl PX10_isCount rfl rfl rfl rfl ?_
  rw [zif_neg nv]
  refine z_cS (c_demand1 G 1 (by decide)) KX10_demand SX10_demand rfl rfl PX10_demand rfl rfl rfl rfl ?_
  refine z_go 90 rfl ?_
  refine z_cS (c_abs G (a.toInt64 - b.toInt64)) KJ9_abs_067f4 SJ9_abs_067f4 rfl rfl PJ9_abs_067f4 rfl rfl rfl rfl ?_
  refine z_go 90 rfl ?_
  have rest : ¬ sOnto a b w n → ∀ v5, Z X MX10_copy (9, 350, h.2.1, h.2.2) h 54 [some (.ref o), some (.int a), some (.int b), some (.int (nI n)), some (.int w), some v5] [.int 0, .int (nI n), .int b, .ref o] Q := by
    intro hno v5
    have hS : sCopies S a b w n = _ := zif_neg hno
    rw [hS] at hQ
    cases hf : sFw S b 0 n with
    | some i =>
      rw [hf] at hQ
      dsimp only at hQ
      refine z_cVP (zSt_0 R) (k_per0 G I hc R hp b 0 n i (by omega) hf (b.toInt + i) (sWr_wrap (by have := sFw_lt hf; omega) N2).symm (w_wrap (by have := sFw_lt hf; omega) N2)) KX10_permits IX10_permits VX10_permits rfl rfl rfl PX10_permits rfl rfl rfl rfl ?_
      intro h1 P1
      refine z_br rfl rfl (fun _ => ?_) (fun c => absurd c (by first | decide | (dsimp only; decide)))
      refine z_go 90 rfl ?_
      rw [sRight_s hf] at hQ
      exact z_zret rfl rfl rfl (hQ _ _ ⟨rfl, P1⟩)
    | none =>
      rw [hf] at hQ
      dsimp only at hQ
      refine z_cV (zSt_0 R) (k_per1 G I R b 0 n (by omega) hf) KX10_permits IX10_permits VX10_permits rfl rfl rfl PX10_permits rfl rfl rfl rfl ?_
      refine z_br rfl rfl (fun c => absurd c (by first | decide | (dsimp only; decide))) (fun _ => ?_)
      refine z_go 90 rfl ?_
      cases hf2 : sFw S a 0 n with
      | some i =>
        rw [hf2] at hQ
        dsimp only at hQ
        refine z_cVP (zSt_0 R) (k_per0 G I hc R hp a 1 n i (by omega) hf2 (a.toInt + i) (sWr_wrap (by have := sFw_lt hf2; omega) N2).symm (w_wrap (by have := sFw_lt hf2; omega) N2)) KX10_permits IX10_permits VX10_permits rfl rfl rfl PX10_permits rfl rfl rfl rfl ?_
        intro h1 P1
        refine z_br rfl rfl (fun c => absurd c (by first | decide | (dsimp only; decide))) (fun _ => ?_)
        refine z_go 90 rfl ?_
        rw [sRight_s hf2] at hQ
        exact z_zret rfl rfl rfl (hQ _ _ ⟨rfl, P1⟩)
      | none =>
        rw [hf2] at hQ
        dsimp only at hQ
        have hx : n = 0 ∨ ∃ x y, a = nI y ∧ b = nI x ∧ x + n ≤ sN S 1 0 ∧ y + n ≤ sN S 1 0 := by
          rcases Nat.eq_zero_or_pos n with z | z
          · exact Or.inl z
          · obtain ⟨b1, hb1, hb2, hb3⟩ := sFw_ok hf z
            obtain ⟨b4, hb4, hb5, hb6⟩ := sFw_ok hf2 z
            exact Or.inr ⟨b1, b4, hb4, hb1, hb2, hb5⟩
        refine z_cV (zSt_0 R) (k_per1 G I R a 1 n (by omega) hf2) KX10_permits IX10_permits VX10_permits rfl rfl rfl PX10_permits rfl rfl rfl rfl ?_
        refine z_br rfl rfl (fun _ => ?_) (fun c => absurd c (by first | decide | (dsimp only; decide)))
        refine z_go 90 rfl ?_
        refine z_get (zSt_0 R) rfl rfl rfl rfl ?_
        refine z_go 90 rfl ?_
        refine z_cV Mm.1 (c_moveBytes G Mm a b n hx) KX6_moveBytes IX6_moveBytes VX6_moveBytes rfl rfl rfl PX6_moveBytes rfl rfl rfl rfl ?_
        refine z_go 90 rfl ?_
        exact z_zret rfl rfl rfl (hQ _ _ ⟨rfl, D, W, K, zSt_le (zSt_cop R a b n) (by omega) (by omega)⟩)
  have wa := w_abs a b n (by omega)
  refine z_br rfl rfl (fun c => ?_) (fun c => ?_) <;> (try dsimp only at c)
  · have hno : ¬ sOnto a b w n := by
      rintro ⟨-, z1, z2, z3⟩
      have := (lg_cmp_lt _ _).mpr (wa.mpr ⟨z2, z3⟩)
      rw [i_lt] at this
      rw [i_le] at c
      omega
    refine z_go 90 rfl ?_
    refine z_br rfl rfl (fun _ => ?_) (fun c => absurd c (by first | decide | (dsimp only; decide)))
    refine z_go 90 rfl ?_
    exact rest hno _
  · have hlt := wa.mp ((lg_cmp_lt _ _).mp (by rw [i_lt]; rw [i_le] at c; omega))
    refine z_go 90 rfl ?_
    refine z_br rfl rfl (fun c => absurd c (by first | decide | (dsimp only; decide))) (fun _ => ?_)
    refine z_go 90 rfl ?_
    rcases hw with rfl | rfl
    · refine z_br rfl rfl (fun c => absurd c (by first | decide | (dsimp only; decide))) (fun _ => ?_)
      refine z_go 90 rfl ?_
      have hon : sOnto a b 0 n := ⟨rfl, by omega, hlt.1, hlt.2⟩
      rw [show sCopies S a b 0 n = _ from zif_pos hon] at hQ
      refine z_cVP (zSt_0 R) (k_tell G I hc R hp 13 a (nI n) 1 a.toInt (Or.inl rfl)) KX10_tell IX10_tell VX10_tell rfl rfl rfl PX10_tell rfl rfl rfl rfl ?_
      intro h1 P1
      refine z_go 90 rfl ?_
      exact z_zret rfl rfl rfl (hQ _ _ ⟨rfl, P1⟩)
    · refine z_br rfl rfl (fun _ => ?_) (fun c => absurd c (by first | decide | (dsimp only; decide)))
      refine z_go 90 rfl ?_
      exact rest (fun z => absurd z.1 (by decide)) _
theorem sCopies_0 (S : zS) (a b w : Int32) (k : Nat) : (sCopies S a b w k).2 0 = S 0 := by
  unfold sCopies sRight
  by_cases c : sOnto a b w k
  · rw [zif_pos c]; rfl
  · rw [zif_neg c]
    cases sFw S b 0 k with
    | some i => rfl
    | none => cases sFw S a 0 k with
      | some i => rfl
      | none => rfl
theorem k_copy (G : zG X) (I : sInv S cc) (hcc : cc < 512) (R : zSt X F o S D W K h p q) (hp : p ≤ 500000 ∧ q ≤ 7000000) (a b n w : Int32) (hw : w = 0 ∨ w = 1) : ZM X MX10_copy 9 350 [.ref o, .int a, .int b, .int n, .int w] h (zPub X F o zIAE zIAE (.int (sCopy S a b n w).1) (sCopy S a b n w).2 (p + 30) (q + 3000)) := by
  have I' := sInv_T I 0 (by decide)
  have R' := zSt_T R 0
  have N2 := I.2.1.2.1
  have c4 := I.2.2.2.2.2.2.2.2.2.2.2
  have hc : sN (sThrow S 0) 27 0 < 512 := by show sN S 27 0 < 512; omega
  have lim := zSt_limA R hp
  have ho := R.2.1.1
  by_cases nv : sNoA S n
  · rw [show sCopy S a b n w = (0, sThrow S 1) from zif_pos nv]
    refine zm_of_z G KX10_copy rfl rfl ?_
    refine z_go 90 rfl ?_
    refine z_cV (zSt_0 R) (k_isC G I R n) KX10_isCount IX10_isCount VX10_isCount rfl rfl rfl PX10_isCount rfl rfl rfl rfl ?_
    rw [zif_pos nv]
    refine z_cST (c_demand0 G lim) KX10_demand SX10_demand rfl rfl PX10_demand rfl rfl rfl rfl rfl ?_
    exact zPub_x R
  · have nv' := nv
    unfold sNoA at nv'
    obtain ⟨k, rfl, hk⟩ := i_nat (x := n) (by omega)
    rw [i_nI hk] at nv'
    have hS : sCopy S a b (nI k) w = sCopies (sThrow S 0) a b w k := by
      unfold sCopy
      rw [zif_neg nv, n_toNat hk]
    rw [hS]
    refine k_copyB G I' hc R' hp a b w k (by show k ≤ sN S 1 0; omega) hw (fun r h' P => ?_)
    obtain ⟨rfl, P⟩ := P
    exact zPub_t P (by rw [sCopies_0]; rfl)
end ZCP
