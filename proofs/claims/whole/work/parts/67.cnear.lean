section ZCN
variable {X : zCx} {S : zS} {D : Nat → Nat → Nat} {W : Nat → Nat → Int32} {K : Nat → Nat → Nat} {h : zHp} {cc : Nat}
theorem k_nearG (G : zG X) (I : sInv S cc) (R : zRel X S D W K h) (z : Nat) (hz : z ≤ 8192) : ZM X MX3_nearestTo 3 181 [.ref (D 4 0), .int (nI z)] h (zX h (some (va_rf ((sBst z (sN S 5) (sN S 6) (fun _ => True) (sN S 7 0)).map (D 7))))) := by
  obtain ⟨I0, In, Ig, If, Ib, Iq, Ih, Im, c1, c2, c3, c4⟩ := id I
  have g1 := Ig.1
  have A : zAl X h (D 5 0) (D 6 0) (W 5 0) (sN S 7 0) (K 6 0) (zes S D K 5 0) := zRel_al R (r := 5) (i := 0) (Or.inl ⟨rfl, by decide⟩)
  have h4 := R.1 4 0 ⟨rfl, by decide⟩
  have l5 : ∀ i, sN S 5 i ≤ 20000 := fun i => by have := sN_lt I0 (k := 5) (i := i) rfl; omega
  have l6 : ∀ i, sN S 6 i ≤ 20000 := fun i => by have := sN_lt I0 (k := 6) (i := i) rfl; omega
  refine zm_of_z G KX3_nearestTo rfl rfl ?_
  refine z_go 90 rfl ?_
  refine z_get h4 rfl rfl rfl rfl ?_
  refine z_cV A.1 (c_size (z := .null) G A.1) KJx4a65c_size_8abf5 IJx4a65c_size_8abf5 VJx4a65c_size_8abf5 rfl rfl rfl PJx4a65c_size_8abf5 rfl rfl rfl rfl ?_
  have H := zdown (P := fun k => Z X MX3_nearestTo (3, 181, h.2.1, h.2.2) h 12 [some (.ref (D 4 0)), some (.int (nI z)), some (va_rf ((sBst z (sN S 5) (sN S 6) (fun _ => True) k).map (D 7))), some (.int (nI k))] [.int (nI (sN S 7 0)), .int (nI k)] (zX h (some (va_rf ((sBst z (sN S 5) (sN S 6) (fun _ => True) (sN S 7 0)).map (D 7)))))) (sN S 7 0) (fun k hk ih => ?_) 0 (Nat.zero_le _)
  · exact H
  refine z_br rfl rfl (fun c => ?_) (fun c => ?_) <;> (try dsimp only at c)
  · rw [n_le (by omega) (by omega)] at c
    have : k = sN S 7 0 := by omega
    subst this
    cases hb : sBst z (sN S 5) (sN S 6) (fun _ => True) (sN S 7 0) with
    | none =>
      refine z_go 1 rfl ?_
      exact z_aret (r := none) rfl rfl (Or.inl ⟨_, rfl⟩) ⟨rfl, rfl⟩
    | some j =>
      refine z_go 1 rfl ?_
      exact z_aret (r := some (D 7 j)) rfl rfl (Or.inl ⟨_, rfl⟩) ⟨rfl, rfl⟩
  rw [n_le (by omega) (by omega)] at c
  have hk' := R.1 7 k (show k < sN S 7 0 by omega)
  have ih := ih (by omega)
  have hst : sBst z (sN S 5) (sN S 6) (fun _ => True) (k + 1) = sNr z (sN S 5) (sN S 6) (sBst z (sN S 5) (sN S 6) (fun _ => True) k) k := zif_pos trivial
  rw [hst] at ih
  cases hb : sBst z (sN S 5) (sN S 6) (fun _ => True) k with
  | none =>
    rw [hb] at ih
    show Z X MX3_nearestTo _ _ _ [_, _, some .null, _] _ _
    refine z_go 90 rfl ?_
    refine z_get h4 rfl rfl rfl rfl ?_
    refine z_go 90 rfl ?_
    refine z_cV A.1 (c_get G (b := D 7 k) k A (i_nI (by omega)) (by omega) (if_pos (by show k < sN S 7 0; omega))) KJx4a65c_get_915e3 IJx4a65c_get_915e3 VJx4a65c_get_915e3 rfl rfl rfl PJx4a65c_get_915e3 rfl rfl rfl rfl ?_
    refine z_cast hk' rfl rfl (by decide +kernel) ?_
    refine z_go 90 rfl ?_
    refine z_cN (c_nearer0 G (nI z)) KX10_nearer SX10_nearer rfl rfl PX10_nearer rfl rfl rfl rfl ?_
    refine z_go 90 rfl ?_
    rw [show nI k + (1 : Int32) = nI (k + 1) from n_succ k]
    refine z_get h4 rfl rfl rfl rfl ?_
    refine z_cV A.1 (c_size (z := .null) G A.1) KJx4a65c_size_8abf5 IJx4a65c_size_8abf5 VJx4a65c_size_8abf5 rfl rfl rfl PJx4a65c_size_8abf5 rfl rfl rfl rfl ?_
    exact ih
  | some j =>
    rw [hb] at ih
    have hj := R.1 7 j (show j < sN S 7 0 by have := (sBst_lt hb).1; omega)
    show Z X MX3_nearestTo _ _ _ [_, _, some (.ref (D 7 j)), _] _ _
    refine z_go 90 rfl ?_
    refine z_get h4 rfl rfl rfl rfl ?_
    refine z_go 90 rfl ?_
    refine z_cV A.1 (c_get G (b := D 7 k) k A (i_nI (by omega)) (by omega) (if_pos (by show k < sN S 7 0; omega))) KJx4a65c_get_915e3 IJx4a65c_get_915e3 VJx4a65c_get_915e3 rfl rfl rfl PJx4a65c_get_915e3 rfl rfl rfl rfl ?_
    refine z_cast hk' rfl rfl (by decide +kernel) ?_
    refine z_go 90 rfl ?_
    refine z_cN (c_nearer8 G hj hk' z (by omega) (l5 j) (l6 j) (l5 k) (l6 k)) KX10_nearer SX10_nearer rfl rfl PX10_nearer rfl rfl rfl rfl ?_
    have e : (if sFar z (sN S 5 k) (sN S 6 k) < sFar z (sN S 5 j) (sN S 6 j) ∨ (sFar z (sN S 5 k) (sN S 6 k) = sFar z (sN S 5 j) (sN S 6 j) ∧ sN S 5 k < sN S 5 j) then D 7 k else D 7 j) = ((sNr z (sN S 5) (sN S 6) (some j) k).map (D 7)).getD 0 := by
      unfold sNr
      dsimp only
      split <;> rfl
    have e2 : ∃ y, sNr z (sN S 5) (sN S 6) (some j) k = some y := by
      unfold sNr
      dsimp only
      split
      · exact ⟨_, rfl⟩
      · exact ⟨_, rfl⟩
    obtain ⟨y, hy⟩ := e2
    rw [hy] at e ih
    rw [show (if sFar z (sN S 5 k) (sN S 6 k) < sFar z (sN S 5 j) (sN S 6 j) ∨ (sFar z (sN S 5 k) (sN S 6 k) = sFar z (sN S 5 j) (sN S 6 j) ∧ sN S 5 k < sN S 5 j) then D 7 k else D 7 j) = D 7 y from e]
    refine z_go 90 rfl ?_
    rw [show nI k + (1 : Int32) = nI (k + 1) from n_succ k]
    refine z_get h4 rfl rfl rfl rfl ?_
    refine z_cV A.1 (c_size (z := .null) G A.1) KJx4a65c_size_8abf5 IJx4a65c_size_8abf5 VJx4a65c_size_8abf5 rfl rfl rfl PJx4a65c_size_8abf5 rfl rfl rfl rfl ?_
    exact ih
end ZCN
