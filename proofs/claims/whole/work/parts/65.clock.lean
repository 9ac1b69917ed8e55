section ZCL
variable {X : zCx} {S : zS} {D : Nat → Nat → Nat} {W : Nat → Nat → Int32} {K : Nat → Nat → Nat} {h : zHp} {cc : Nat}
theorem k_isCount (G : zG X) (I : sInv S cc) (R : zRel X S D W K h) (q : Int32) : ZM X MX10_isCount 0 100 [.ref (D 0 0), .int q] h (zX h (some (.int (zif (sNoA S q) 0 1)))) := by
  have M := zRel_mem R I.2.1
  have N2 := I.2.1.2.1
  have t0 : (0 : Int32).toInt = 0 := rfl
  have t1 := i_nI (n := sN S 1 0) (by omega)
  refine zm_of_z G KX10_isCount rfl rfl ?_
  refine z_go 90 rfl ?_
  refine z_br rfl rfl (fun c => ?_) (fun c => ?_) <;> (try dsimp only at c)
  · rw [i_lt] at c
    refine z_go 90 rfl ?_
    exact z_zret rfl rfl rfl ⟨rfl, by rw [zif_pos (p := sNoA S q) (Or.inl (by omega))]⟩
  rw [i_lt] at c
  refine z_go 90 rfl ?_
  refine z_get (zRel_0 R) rfl rfl rfl rfl ?_
  refine z_get M.1 rfl rfl rfl rfl ?_
  refine z_br rfl rfl (fun d => ?_) (fun d => ?_) <;> (try dsimp only at d)
  · rw [i_lt] at d
    refine z_go 90 rfl ?_
    exact z_zret rfl rfl rfl ⟨rfl, by rw [zif_pos (p := sNoA S q) (Or.inr (by omega))]⟩
  · rw [i_lt] at d
    refine z_go 90 rfl ?_
    exact z_zret rfl rfl rfl ⟨rfl, by rw [zif_neg (p := sNoA S q) (by unfold sNoA; omega)]⟩
theorem k_lock (G : zG X) (I : sInv S cc) (R : zRel X S D W K h) (p q : Int32) (hlim : zLim X (zadd h 1 6)) : ZM X MX10_lock 7 290 [.ref (D 0 0), .int p, .int q] h (fun r h' => (¬ sBadC S p q ∧ r = .inl (some (.int (sChange S p q 0 247).1)) ∧ zRel X (sChange S p q 0 247).2 D W K h' ∧ h'.2 = h.2 ∧ ∀ a, a ≠ D 3 0 → h'.1 a = h.1 a) ∨ (sBadC S p q ∧ zXT (zadd h 1 6) zIAE r h')) := by
  have M := zRel_mem R I.2.1
  have N2 := I.2.1.2.1
  refine zm_of_z G KX10_lock rfl rfl ?_
  refine z_go 90 rfl ?_
  refine z_cV (zRel_0 R) (k_isCount G I R q) KX10_isCount IX10_isCount VX10_isCount rfl rfl rfl PX10_isCount rfl rfl rfl rfl ?_
  refine z_ite (p := sNoA S q) (fun nv => ?_) (fun nv => ?_)
  · rw [zif_pos nv]
    refine z_br rfl rfl (fun _ => ?_) (fun c => absurd c (by first | decide | (dsimp only; decide)))
    refine z_go 90 rfl ?_
    exact z_cST (c_demand0 G hlim) KX10_demand SX10_demand rfl rfl PX10_demand rfl rfl rfl rfl rfl (Or.inr ⟨Or.inl nv, rfl, rfl⟩)
  rw [zif_neg nv]
  have nv' := nv
  unfold sNoA at nv'
  refine z_br rfl rfl (fun c => absurd c (by first | decide | (dsimp only; decide))) (fun _ => ?_)
  refine z_go 90 rfl ?_
  refine z_get (zRel_0 R) rfl rfl rfl rfl ?_
  refine z_go 90 rfl ?_
  refine z_cV M.1 (c_holds G M p q) KX6_holds IX6_holds VX6_holds rfl rfl rfl PX6_holds rfl rfl rfl rfl ?_
  refine z_ite (p := sHolds (sN S 1 0) p q) (fun hh => ?_) (fun hh => ?_)
  · rw [zif_pos hh]
    unfold sHolds at hh
    have hb : ¬ sBadC S p q := by unfold sBadC; rintro (z | z); exact nv z; omega
    refine z_br rfl rfl (fun c => absurd c (by first | decide | (dsimp only; decide))) (fun _ => ?_)
    refine z_go 90 rfl ?_
    refine z_cS (c_demand1 G 1 (by decide)) KX10_demand SX10_demand rfl rfl PX10_demand rfl rfl rfl rfl ?_
    refine z_go 90 rfl ?_
    refine z_get (zRel_0 R) rfl rfl rfl rfl ?_
    refine z_go 90 rfl ?_
    have hS : sChange S p q 0 247 = _ := zif_neg hb
    rw [hS]
    obtain ⟨n, rfl, hn⟩ := i_nat (x := q) (by omega)
    rw [i_nI hn] at hh nv' ⊢
    rw [Int.toNat_natCast]
    have hx : n = 0 ∨ ∃ a, p = nI a ∧ a + n ≤ sN S 1 0 := by
      rcases hh with z | z
      · left; omega
      · obtain ⟨a, rfl, ha⟩ := i_nat (x := p) (by omega)
        rw [i_nI ha] at z
        exact Or.inr ⟨a, rfl, by omega⟩
    refine z_cV M.1 (c_exchange G M p 0 247 n hx) KX6_exchangeWhole IX6_exchangeWhole VX6_exchangeWhole rfl rfl rfl PX6_exchangeWhole rfl rfl rfl rfl ?_
    refine z_iret rfl rfl (Or.inl ⟨hb, rfl, ?_, rfl, fun a ha => zset_ne _ _ ha⟩)
    exact zRel_T (zRel_S R _) 0
  · rw [zif_neg hh]
    unfold sHolds at hh
    refine z_br rfl rfl (fun _ => ?_) (fun c => absurd c (by first | decide | (dsimp only; decide)))
    refine z_go 90 rfl ?_
    exact z_cST (c_demand0 G hlim) KX10_demand SX10_demand rfl rfl PX10_demand rfl rfl rfl rfl rfl (Or.inr ⟨Or.inr (by omega), rfl, rfl⟩)
theorem k_unlock (G : zG X) (I : sInv S cc) (R : zRel X S D W K h) (p q : Int32) (hlim : zLim X (zadd h 1 6)) : ZM X MX10_unlock 7 290 [.ref (D 0 0), .int p, .int q] h (fun r h' => (¬ sBadC S p q ∧ r = .inl (some (.int (sChange S p q 247 0).1)) ∧ zRel X (sChange S p q 247 0).2 D W K h' ∧ h'.2 = h.2 ∧ ∀ a, a ≠ D 3 0 → h'.1 a = h.1 a) ∨ (sBadC S p q ∧ zXT (zadd h 1 6) zIAE r h')) := by
  have M := zRel_mem R I.2.1
  have N2 := I.2.1.2.1
  refine zm_of_z G KX10_unlock rfl rfl ?_
  refine z_go 90 rfl ?_
  refine z_cV (zRel_0 R) (k_isCount G I R q) KX10_isCount IX10_isCount VX10_isCount rfl rfl rfl PX10_isCount rfl rfl rfl rfl ?_
  refine z_ite (p := sNoA S q) (fun nv => ?_) (fun nv => ?_)
  · rw [zif_pos nv]
    refine z_br rfl rfl (fun _ => ?_) (fun c => absurd c (by first | decide | (dsimp only; decide)))
    refine z_go 90 rfl ?_
    exact z_cST (c_demand0 G hlim) KX10_demand SX10_demand rfl rfl PX10_demand rfl rfl rfl rfl rfl (Or.inr ⟨Or.inl nv, rfl, rfl⟩)
  rw [zif_neg nv]
  have nv' := nv
  unfold sNoA at nv'
  refine z_br rfl rfl (fun c => absurd c (by first | decide | (dsimp only; decide))) (fun _ => ?_)
  refine z_go 90 rfl ?_
  refine z_get (zRel_0 R) rfl rfl rfl rfl ?_
  refine z_go 90 rfl ?_
  refine z_cV M.1 (c_holds G M p q) KX6_holds IX6_holds VX6_holds rfl rfl rfl PX6_holds rfl rfl rfl rfl ?_
  refine z_ite (p := sHolds (sN S 1 0) p q) (fun hh => ?_) (fun hh => ?_)
  · rw [zif_pos hh]
    unfold sHolds at hh
    have hb : ¬ sBadC S p q := by unfold sBadC; rintro (z | z); exact nv z; omega
    refine z_br rfl rfl (fun c => absurd c (by first | decide | (dsimp only; decide))) (fun _ => ?_)
    refine z_go 90 rfl ?_
    refine z_cS (c_demand1 G 1 (by decide)) KX10_demand SX10_demand rfl rfl PX10_demand rfl rfl rfl rfl ?_
    refine z_go 90 rfl ?_
    refine z_get (zRel_0 R) rfl rfl rfl rfl ?_
    refine z_go 90 rfl ?_
    have hS : sChange S p q 247 0 = _ := zif_neg hb
    rw [hS]
    obtain ⟨n, rfl, hn⟩ := i_nat (x := q) (by omega)
    rw [i_nI hn] at hh nv' ⊢
    rw [Int.toNat_natCast]
    have hx : n = 0 ∨ ∃ a, p = nI a ∧ a + n ≤ sN S 1 0 := by
      rcases hh with z | z
      · left; omega
      · obtain ⟨a, rfl, ha⟩ := i_nat (x := p) (by omega)
        rw [i_nI ha] at z
        exact Or.inr ⟨a, rfl, by omega⟩
    refine z_cV M.1 (c_exchange G M p 247 0 n hx) KX6_exchangeWhole IX6_exchangeWhole VX6_exchangeWhole rfl rfl rfl PX6_exchangeWhole rfl rfl rfl rfl ?_
    refine z_iret rfl rfl (Or.inl ⟨hb, rfl, ?_, rfl, fun a ha => zset_ne _ _ ha⟩)
    exact zRel_T (zRel_S R _) 0
  · rw [zif_neg hh]
    unfold sHolds at hh
    refine z_br rfl rfl (fun _ => ?_) (fun c => absurd c (by first | decide | (dsimp only; decide)))
    refine z_go 90 rfl ?_
    exact z_cST (c_demand0 G hlim) KX10_demand SX10_demand rfl rfl PX10_demand rfl rfl rfl rfl rfl (Or.inr ⟨Or.inr (by omega), rfl, rfl⟩)
end ZCL
