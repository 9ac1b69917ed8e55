section ZCH2
variable {X : zCx} {S : zS} {D : Nat → Nat → Nat} {W : Nat → Nat → Int32} {K : Nat → Nat → Nat} {h : zHp} {cc : Nat}
theorem sNr_s (z : Nat) (A N : Nat → Nat) (j k : Nat) (d : Nat → Nat) : ∃ y, sNr z A N (some j) k = some y ∧ (if sFar z (A k) (N k) < sFar z (A j) (N j) ∨ (sFar z (A k) (N k) = sFar z (A j) (N j) ∧ A k < A j) then d k else d j) = d y := by
  unfold sNr
  dsimp only
  split
  · exact ⟨k, rfl, rfl⟩
  · exact ⟨j, rfl, rfl⟩
theorem k_nearH (G : zG X) (I : sInv S cc) (R : zRel X S D W K h) (z : Nat) (hz : z ≤ 8192) : ZM X MX4_nearestTo 3 181 [.ref (D 15 0), .int (nI z)] h (zX h (some (va_rf ((sBst z (sN S 15) (sN S 16) (fun k => sN S 18 k ≠ 2) (sN S 23 0)).map (D 18))))) := by
  obtain ⟨I0, In, Ig, If, Ib, Iq, Ih, Im, c1, c2, c3, c4⟩ := id I
  have A : zAl X h (D 16 0) (D 17 0) (W 16 0) (sN S 23 0) (K 17 0) (zes S D K 16 0) := zRel_al R (r := 16) (i := 0) (Or.inl ⟨rfl, by decide⟩)
  have h4 := zRel_15 R
  have l5 : ∀ i, sN S 15 i ≤ 20000 := fun i => by have := sN_lt I0 (k := 15) (i := i) rfl; omega
  have l6 : ∀ i, sN S 16 i ≤ 20000 := fun i => by have := sN_lt I0 (k := 16) (i := i) rfl; omega
  refine zm_of_z G KX4_nearestTo rfl rfl ?_
  refine z_go 90 rfl ?_
  refine z_get h4 rfl rfl rfl rfl ?_
  refine z_cV A.1 (c_size (z := .null) G A.1) KJx4a65c_size_8abf5 IJx4a65c_size_8abf5 VJx4a65c_size_8abf5 rfl rfl rfl PJx4a65c_size_8abf5 rfl rfl rfl rfl ?_
  have H := zdown (P := fun k => ∀ o4, Z X MX4_nearestTo (3, 181, h.2.1, h.2.2) h 12 [some (.ref (D 15 0)), some (.int (nI z)), some (va_rf ((sBst z (sN S 15) (sN S 16) (fun k => sN S 18 k ≠ 2) k).map (D 18))), some (.int (nI k)), o4] [.int (nI (sN S 23 0)), .int (nI k)] (zX h (some (va_rf ((sBst z (sN S 15) (sN S 16) (fun k => sN S 18 k ≠ 2) (sN S 23 0)).map (D 18)))))) (sN S 23 0) (fun k hk ih o4 => ?_) 0 (Nat.zero_le _) none
  · exact H
  refine z_br rfl rfl (fun c => ?_) (fun c => ?_) <;> (try dsimp only at c)
  · rw [n_le (by omega) (by omega)] at c
    have : k = sN S 23 0 := by omega
    subst this
    cases hb : sBst z (sN S 15) (sN S 16) (fun k => sN S 18 k ≠ 2) (sN S 23 0) with
    | none =>
      refine z_go 1 rfl ?_
      exact z_aret (r := none) rfl rfl (Or.inl ⟨_, rfl⟩) ⟨rfl, rfl⟩
    | some j =>
      refine z_go 1 rfl ?_
      exact z_aret (r := some (D 18 j)) rfl rfl (Or.inl ⟨_, rfl⟩) ⟨rfl, rfl⟩
  rw [n_le (by omega) (by omega)] at c
  have hk' := R.1 18 k (show k < sN S 23 0 by omega)
  have l18 := sN_lt I0 (k := 18) (i := k) rfl
  have ih := ih (by omega)
  have hst : sBst z (sN S 15) (sN S 16) (fun k => sN S 18 k ≠ 2) (k + 1) = zif (sN S 18 k ≠ 2) (sNr z (sN S 15) (sN S 16) (sBst z (sN S 15) (sN S 16) (fun k => sN S 18 k ≠ 2) k) k) (sBst z (sN S 15) (sN S 16) (fun k => sN S 18 k ≠ 2) k) := rfl
  rw [hst] at ih
  refine z_go 90 rfl ?_
  refine z_get h4 rfl rfl rfl rfl ?_
  refine z_go 90 rfl ?_
  refine z_cV A.1 (c_get G (b := D 18 k) k A (i_nI (by omega)) (by omega) (if_pos (by show k < sN S 23 0; omega))) KJx4a65c_get_915e3 IJx4a65c_get_915e3 VJx4a65c_get_915e3 rfl rfl rfl PJx4a65c_get_915e3 rfl rfl rfl rfl ?_
  refine z_cast hk' rfl rfl (by decide +kernel) ?_
  refine z_go 90 rfl ?_
  refine z_get hk' rfl rfl rfl rfl ?_
  refine z_go 90 rfl ?_
  refine z_br rfl rfl (fun q => ?_) (fun q => ?_) <;> (try dsimp only at q)
  · rw [show (2 : Int32) = nI 2 from rfl, n_eq (by omega) (by omega)] at q
    rw [zif_neg (by omega)] at ih
    cases hb : sBst z (sN S 15) (sN S 16) (fun k => sN S 18 k ≠ 2) k with
    | none =>
      rw [hb] at ih
      show Z X MX4_nearestTo _ _ _ [_, _, some .null, _, _] _ _
      refine z_go 90 rfl ?_
      rw [show nI k + (1 : Int32) = nI (k + 1) from n_succ k]
      refine z_get h4 rfl rfl rfl rfl ?_
      refine z_cV A.1 (c_size (z := .null) G A.1) KJx4a65c_size_8abf5 IJx4a65c_size_8abf5 VJx4a65c_size_8abf5 rfl rfl rfl PJx4a65c_size_8abf5 rfl rfl rfl rfl ?_
      exact ih _
    | some j =>
      rw [hb] at ih
      show Z X MX4_nearestTo _ _ _ [_, _, some (.ref (D 18 j)), _, _] _ _
      refine z_go 90 rfl ?_
      rw [show nI k + (1 : Int32) = nI (k + 1) from n_succ k]
      refine z_get h4 rfl rfl rfl rfl ?_
      refine z_cV A.1 (c_size (z := .null) G A.1) KJx4a65c_size_8abf5 IJx4a65c_size_8abf5 VJx4a65c_size_8abf5 rfl rfl rfl PJx4a65c_size_8abf5 rfl rfl rfl rfl ?_
      exact ih _
  rw [show (2 : Int32) = nI 2 from rfl, n_eq (by omega) (by omega)] at q
  rw [zif_pos q] at ih
  cases hb : sBst z (sN S 15) (sN S 16) (fun k => sN S 18 k ≠ 2) k with
  | none =>
    rw [hb] at ih
    show Z X MX4_nearestTo _ _ _ [_, _, some .null, _, _] _ _
    refine z_go 90 rfl ?_
    refine z_cN (c_nearer0 G (nI z)) KX10_nearer SX10_nearer rfl rfl PX10_nearer rfl rfl rfl rfl ?_
    refine z_go 90 rfl ?_
    rw [show nI k + (1 : Int32) = nI (k + 1) from n_succ k]
    refine z_get h4 rfl rfl rfl rfl ?_
    refine z_cV A.1 (c_size (z := .null) G A.1) KJx4a65c_size_8abf5 IJx4a65c_size_8abf5 VJx4a65c_size_8abf5 rfl rfl rfl PJx4a65c_size_8abf5 rfl rfl rfl rfl ?_
    exact ih _
  | some j =>
    rw [hb] at ih
    have hj := R.1 18 j (show j < sN S 23 0 by have := (sBst_lt hb).1; omega)
    show Z X MX4_nearestTo _ _ _ [_, _, some (.ref (D 18 j)), _, _] _ _
    refine z_go 90 rfl ?_
    refine z_cN (c_nearer1 G hj hk' z (by omega) (l5 j) (l6 j) (l5 k) (l6 k)) KX10_nearer SX10_nearer rfl rfl PX10_nearer rfl rfl rfl rfl ?_
    obtain ⟨y, hy, e⟩ := sNr_s z (sN S 15) (sN S 16) j k (D 18)
    rw [hy] at ih
    rw [e]
    refine z_go 90 rfl ?_
    rw [show nI k + (1 : Int32) = nI (k + 1) from n_succ k]
    refine z_get h4 rfl rfl rfl rfl ?_
    refine z_cV A.1 (c_size (z := .null) G A.1) KJx4a65c_size_8abf5 IJx4a65c_size_8abf5 VJx4a65c_size_8abf5 rfl rfl rfl PJx4a65c_size_8abf5 rfl rfl rfl rfl ?_
    exact ih _
end ZCH2
