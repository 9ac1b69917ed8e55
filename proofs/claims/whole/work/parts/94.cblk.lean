section ZBL
variable {X : zCx} {F : Nat → Option va_E} {o p q : Nat} {S : zS} {D : Nat → Nat → Nat} {W : Nat → Nat → Int32} {K : Nat → Nat → Nat} {h : zHp} {cc : Nat}
noncomputable def zco (S : zS) (w : Int32) : Option Nat := if w.toInt < (sN S 1 0 / 4 : Nat) then none else zow S ((w.toInt.toNat - sN S 1 0 / 4) / 16)
theorem zow_out {u : Nat} (I : sInv S cc) (h : (sN S 1 0 - sN S 1 0 / 4) / 16 ≤ u) : zow S u = none := by
  cases e : zow S u with
  | none => rfl
  | some k =>
    obtain ⟨h1, h2, h3, h4⟩ := zow_some I e
    have := (I.2.2.2.2.1.1 k h1).2.2.1
    have := I.2.1.2.2.1
    omega
theorem zco_s {w : Int32} {k : Nat} (I : sInv S cc) (h : zco S w = some k) : k < sN S 23 0 ∧ sN S 18 k ≠ 2 ∧ (sN S 19 k : Int) ≤ w.toInt ∧ w.toInt < sN S 19 k + sN S 20 k := by
  unfold zco at h
  by_cases c : w.toInt < (sN S 1 0 / 4 : Nat)
  · rw [if_pos c] at h
    cases h
  · rw [if_neg c] at h
    obtain ⟨h1, h2, h3, h4⟩ := zow_some I h
    obtain ⟨f, m, f1, f2, f3, f4⟩ := sIb_u I h1
    have := I.2.1.2.2.1
    exact ⟨h1, h2, by omega, by omega⟩
theorem zco_is {w : Int32} {k : Nat} (I : sInv S cc) (h1 : k < sN S 23 0) (h2 : sN S 18 k ≠ 2) (h3 : (sN S 19 k : Int) ≤ w.toInt) (h4 : w.toInt < sN S 19 k + sN S 20 k) : zco S w = some k := by
  obtain ⟨f, m, f1, f2, f3, f4⟩ := sIb_u I h1
  unfold zco
  rw [if_neg (by omega)]
  exact zow_is I h1 h2 (by omega) (by omega)
theorem k_chO (G : zG X) (I : sInv S cc) (R : zSt X F o S D W K h p q) (w : Int32) : ZM X MX4_chunkOwner 0 100 [.ref (D 15 0), .int w] h (zX h (some (va_rf ((zco S w).map (D 18))))) := by
  have N2 := I.2.1.2.1
  have Mm := zRel_mem R.1 I.2.1
  have h15 := zRel_15 R.1
  have h21 := zSt_21 R
  have t4 := i_nI (n := sN S 1 0 / 4) (by omega)
  refine zm_of_z G KX4_chunkOwner rfl rfl ?_
  refine z_go 90 rfl ?_
  refine z_get h15 rfl rfl rfl rfl ?_
  refine z_get Mm.1 rfl rfl rfl rfl ?_
  refine z_br rfl rfl (fun c => ?_) (fun c => ?_) <;> (try dsimp only at c)
  · rw [i_le, t4] at c
    obtain ⟨a, rfl, ha⟩ := i_nat (x := w) (by omega)
    have hc : zco S (nI a) = zow S ((a - sN S 1 0 / 4) / 16) := by
      unfold zco
      rw [if_neg (by omega), n_toNat ha]
    rw [i_nI ha] at c
    rw [hc]
    refine z_go 90 rfl ?_
    refine z_get h15 rfl rfl rfl rfl ?_
    refine z_get Mm.1 rfl rfl rfl rfl ?_
    refine z_go 90 rfl ?_
    rw [n_sub (show sN S 1 0 / 4 ≤ a by omega) ha]
    refine z_div rfl (by decide) ?_
    refine z_go 90 rfl ?_
    rw [show nI (a - sN S 1 0 / 4) / (16 : Int32) = nI ((a - sN S 1 0 / 4) / 16) from n_div (b := 16) (by omega) (by omega) (by omega)]
    refine z_get h15 rfl rfl rfl rfl ?_
    refine z_alen (k := 5) (by decide) h21 rfl ?_
    refine z_br rfl rfl (fun d => ?_) (fun d => ?_) <;> (try dsimp only at d)
    · rw [n_le (by omega) (by omega)] at d
      rw [zow_out I d]
      refine z_go 90 rfl ?_
      exact z_aret (r := none) rfl rfl (Or.inl ⟨_, rfl⟩) ⟨rfl, rfl⟩
    · rw [n_le (by omega) (by omega)] at d
      refine z_go 90 rfl ?_
      refine z_get h15 rfl rfl rfl rfl ?_
      refine z_go 90 rfl ?_
      refine z_kald ((a - sN S 1 0 / 4) / 16) h21 rfl (i_nI (by omega)) (by omega) ?_
      refine z_go 90 rfl ?_
      exact z_aret (r := (zow S ((a - sN S 1 0 / 4) / 16)).map (D 18)) rfl rfl (Or.inl ⟨_, rfl⟩) ⟨rfl, rfl⟩
  · rw [i_le, t4] at c
    rw [show zco S w = none from if_pos (by omega)]
    refine z_go 90 rfl ?_
    exact z_aret (r := none) rfl rfl (Or.inl ⟨_, rfl⟩) ⟨rfl, rfl⟩
noncomputable def zba (S : zS) (w : Int32) : Option Nat := match zco S w with
  | none => none
  | some k => if nI (sN S 15 k) = w then some k else none
theorem k_blAt (G : zG X) (I : sInv S cc) (R : zSt X F o S D W K h p q) (w : Int32) : ZM X MX4_blockAt 1 130 [.ref (D 15 0), .int w] h (zX h (some (va_rf ((zba S w).map (D 18))))) := by
  refine zm_of_z G KX4_blockAt rfl rfl ?_
  refine z_go 90 rfl ?_
  refine z_cV (zRel_15 R.1) (k_chO G I R w) KX4_chunkOwner IX4_chunkOwner VX4_chunkOwner rfl rfl rfl PX4_chunkOwner rfl rfl rfl rfl ?_
  unfold zba
  cases hz : zco S w with
  | none =>
    refine z_go 90 rfl ?_
    exact z_aret (r := none) rfl rfl (Or.inl ⟨_, rfl⟩) ⟨rfl, rfl⟩
  | some k =>
    have hk := (zco_s I hz).1
    have x18 := R.1.1 18 k hk
    show Z X MX4_blockAt _ _ _ _ (.ref (D 18 k) :: _) _
    refine z_go 90 rfl ?_
    refine z_get x18 rfl rfl rfl rfl ?_
    refine z_go 90 rfl ?_
    refine z_br rfl rfl (fun c => ?_) (fun c => ?_) <;> (try dsimp only at c)
    · rw [show (match some k with | none => none | some k => if nI (sN S 15 k) = w then some k else none : Option Nat) = none from if_neg c]
      refine z_go 90 rfl ?_
      exact z_aret (r := none) rfl rfl (Or.inl ⟨_, rfl⟩) ⟨rfl, rfl⟩
    · rw [show (match some k with | none => none | some k => if nI (sN S 15 k) = w then some k else none : Option Nat) = some k from if_pos c]
      refine z_go 90 rfl ?_
      exact z_aret (r := some (D 18 k)) rfl rfl (Or.inl ⟨_, rfl⟩) ⟨rfl, rfl⟩
/-- the block at an address, as the reference finds it -/
theorem sBIn_s {w st : Int32} {k : Nat} (h : sBIn S w st = some k) : k < sN S 23 0 ∧ S 15 k = w ∧ S 18 k = st := by
  obtain ⟨h1, h2, -⟩ := zFst_some.mp h
  exact ⟨h1, h2.1, h2.2⟩
theorem sB_in {w : Int32} {k : Nat} (I : sInv S cc) (h1 : k < sN S 23 0) (h2 : S 15 k = w) (h3 : sN S 18 k ≠ 2) : zba S w = some k := by
  have ib := I.2.2.2.2.1.1 k h1
  have hr := sCh_b (sN S 16 k)
  have hrd : 16 ≤ sRed (sN S 16 k) := by unfold sRed; split <;> (try split) <;> (try split) <;> omega
  have e15 := sN_eq I.1 (k := 15) (i := k) rfl
  have l15 := sN_lt I.1 (k := 15) (i := k) rfl
  have hw : w.toInt = (sN S 15 k : Int) := by
    rw [← h2, e15]
    exact i_nI (by omega)
  unfold zba
  rw [zco_is I h1 h3 (by omega) (by omega)]
  exact if_pos (by rw [← h2]; exact e15.symm)
theorem zba_s {w : Int32} {k : Nat} (I : sInv S cc) (h : zba S w = some k) : k < sN S 23 0 ∧ S 15 k = w ∧ sN S 18 k ≠ 2 := by
  unfold zba at h
  cases hz : zco S w with
  | none => rw [hz] at h; cases h
  | some j =>
    rw [hz] at h
    dsimp only at h
    obtain ⟨h1, h2, -⟩ := zco_s I hz
    by_cases c : nI (sN S 15 j) = w
    · rw [if_pos c] at h
      cases h
      exact ⟨h1, by rw [← c]; exact sN_eq I.1 (k := 15) (i := k) rfl, h2⟩
    · rw [if_neg c] at h
      cases h
theorem sBIn_0 {w st : Int32} (I : sInv S cc) (hst : st = 0 ∨ st = 1) : sBIn S w st = match zba S w with
    | none => none
    | some k => if S 18 k = st then some k else none := by
  have key : ∀ j, j < sN S 23 0 → S 15 j = w → S 18 j = st → zba S w = some j := fun j h1 h2 h3 => sB_in I h1 h2 (by
    unfold sN
    rw [h3]
    rcases hst with rfl | rfl <;> decide)
  cases hz : zba S w with
  | none =>
    refine zFst_none.mpr (fun j hj z => ?_)
    rw [key j hj z.1 z.2] at hz
    cases hz
  | some k =>
    obtain ⟨h1, h2, h3⟩ := zba_s I hz
    show _ = if S 18 k = st then some k else none
    by_cases c : S 18 k = st
    · rw [if_pos c]
      refine zFst_some.mpr ⟨h1, ⟨h2, c⟩, fun j hj z => ?_⟩
      have := key j (by omega) z.1 z.2
      rw [hz] at this
      cases this
      omega
    · rw [if_neg c]
      refine zFst_none.mpr (fun j hj z => ?_)
      have := key j hj z.1 z.2
      rw [hz] at this
      cases this
      exact c z.2
end ZBL
