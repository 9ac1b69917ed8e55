theorem sBst_skip {z : Nat} {A N : Nat → Nat} {P : Nat → Prop} {a b : Nat} (hab : a ≤ b) (hno : ∀ v, a ≤ v → v < b → ¬ P v) : sBst z A N P b = sBst z A N P a := by
  induction b with
  | zero => have : a = 0 := by omega
            rw [this]
  | succ b ih =>
    by_cases e : a = b + 1
    · rw [e]
    · show zif (P b) _ _ = _
      rw [zif_neg (hno b (by omega) (by omega)), ih (by omega) (fun v h1 h2 => hno v h1 (by omega))]
section ZCF
variable {X : zCx} {S : zS} {D : Nat → Nat → Nat} {W : Nat → Nat → Int32} {K : Nat → Nat → Nat} {h : zHp} {cc : Nat}
theorem k_count (G : zG X) (I : sInv S cc) (R : zRel X S D W K h) : ZM X MX2_count 1 127 [.ref (D 8 0)] h (zX h (some (.int (nI (sN S 14 0))))) := by
  have A : zAl X h (D 9 0) (D 10 0) (W 9 0) (sN S 14 0) (K 10 0) (zes S D K 9 0) := zRel_al R (r := 9) (i := 0) (Or.inl ⟨rfl, by decide⟩)
  refine zm_of_z G KX2_count rfl rfl ?_
  refine z_go 90 rfl ?_
  refine z_get (R.1 8 0 ⟨rfl, by decide⟩) rfl rfl rfl rfl ?_
  refine z_cV A.1 (c_size (z := .null) G A.1) KJx4a65c_size_8abf5 IJx4a65c_size_8abf5 VJx4a65c_size_8abf5 rfl rfl rfl PJx4a65c_size_8abf5 rfl rfl rfl rfl ?_
  exact z_iret rfl rfl ⟨rfl, rfl⟩
theorem k_nearF (G : zG X) (I : sInv S cc) (R : zRel X S D W K h) (z : Nat) (hz : z ≤ 8192) : ZM X MX2_nearestTo 3 181 [.ref (D 8 0), .int (nI z)] h (zX h (some (va_rf ((sBst z (sN S 11) (sN S 12) (fun v => v % 4 < sN S 10 (v / 4)) (4 * sN S 14 0)).map (D 14))))) := by
  obtain ⟨I0, In, Ig, If, Ib, Iq, Ih, Im, c1, c2, c3, c4⟩ := id I
  have f1 := If.1
  have h8 := R.1 8 0 ⟨rfl, by decide⟩
  have A : zAl X h (D 9 0) (D 10 0) (W 9 0) (sN S 14 0) (K 10 0) (zes S D K 9 0) := zRel_al R (r := 9) (i := 0) (Or.inl ⟨rfl, by decide⟩)
  have l5 : ∀ i, sN S 11 i ≤ 20000 := fun i => by have := sN_lt I0 (k := 11) (i := i) rfl; omega
  have l6 : ∀ i, sN S 12 i ≤ 20000 := fun i => by have := sN_lt I0 (k := 12) (i := i) rfl; omega
  refine zm_of_z G KX2_nearestTo rfl rfl ?_
  refine z_go 90 rfl ?_
  refine z_cV h8 (k_count G I R) KX2_count IX2_count VX2_count rfl rfl rfl PX2_count rfl rfl rfl rfl ?_
  have H := zdown (P := fun f => ∀ o4 o5, Z X MX2_nearestTo (3, 181, h.2.1, h.2.2) h 9 [some (.ref (D 8 0)), some (.int (nI z)), some (va_rf ((sBst z (sN S 11) (sN S 12) (fun v => v % 4 < sN S 10 (v / 4)) (4 * f)).map (D 14))), some (.int (nI f)), o4, o5] [.int (nI (sN S 14 0)), .int (nI f)] (zX h (some (va_rf ((sBst z (sN S 11) (sN S 12) (fun v => v % 4 < sN S 10 (v / 4)) (4 * sN S 14 0)).map (D 14)))))) (sN S 14 0) (fun f hf ih o4 o5 => ?_) 0 (Nat.zero_le _) none none
  · exact H
  refine z_br rfl rfl (fun c => ?_) (fun c => ?_) <;> (try dsimp only at c)
  · rw [n_le (by omega) (by omega)] at c
    have : f = sN S 14 0 := by omega
    subst this
    cases hb : sBst z (sN S 11) (sN S 12) (fun v => v % 4 < sN S 10 (v / 4)) (4 * sN S 14 0) with
    | none =>
      refine z_go 1 rfl ?_
      exact z_aret (r := none) rfl rfl (Or.inl ⟨_, rfl⟩) ⟨rfl, rfl⟩
    | some j =>
      refine z_go 1 rfl ?_
      exact z_aret (r := some (D 14 j)) rfl rfl (Or.inl ⟨_, rfl⟩) ⟨rfl, rfl⟩
  rw [n_le (by omega) (by omega)] at c
  have ih := ih (by omega)
  have hfr := R.1 11 f (show f < sN S 14 0 by omega)
  have B : zAl X h (D 12 f) (D 13 f) (W 12 f) (sN S 10 f) (K 13 f) (zes S D K 12 f) := zRel_al R (r := 12) (i := f) (Or.inr ⟨rfl, by omega⟩)
  have v4 := (If.2 f (by omega)).2.2.2.2.2.2.2.1
  refine z_go 90 rfl ?_
  refine z_get h8 rfl rfl rfl rfl ?_
  refine z_go 90 rfl ?_
  refine z_cV A.1 (c_get G (b := D 11 f) f A (i_nI (by omega)) (by omega) (if_pos (by show f < sN S 14 0; omega))) KJx4a65c_get_915e3 IJx4a65c_get_915e3 VJx4a65c_get_915e3 rfl rfl rfl PJx4a65c_get_915e3 rfl rfl rfl rfl ?_
  refine z_cast hfr rfl rfl (by decide +kernel) ?_
  refine z_get hfr rfl rfl rfl rfl ?_
  refine z_go 90 rfl ?_
  refine z_cV B.1 (c_size (z := .null) G B.1) KJx4a65c_size_8abf5 IJx4a65c_size_8abf5 VJx4a65c_size_8abf5 rfl rfl rfl PJx4a65c_size_8abf5 rfl rfl rfl rfl ?_
  have H2 := zdown (P := fun j => Z X MX2_nearestTo (3, 181, h.2.1, h.2.2) h 38 [some (.ref (D 8 0)), some (.int (nI z)), some (va_rf ((sBst z (sN S 11) (sN S 12) (fun v => v % 4 < sN S 10 (v / 4)) (4 * f + j)).map (D 14))), some (.int (nI f)), some (.ref (D 12 f)), some (.int (nI j))] [.int (nI (sN S 10 f)), .int (nI j)] (zX h (some (va_rf ((sBst z (sN S 11) (sN S 12) (fun v => v % 4 < sN S 10 (v / 4)) (4 * sN S 14 0)).map (D 14)))))) (sN S 10 f) (fun j hj ihj => ?_) 0 (Nat.zero_le _)
  · exact H2
  refine z_br rfl rfl (fun d => ?_) (fun d => ?_) <;> (try dsimp only at d)
  · rw [n_le (by omega) (by omega)] at d
    have hsk : sBst z (sN S 11) (sN S 12) (fun v => v % 4 < sN S 10 (v / 4)) (4 * (f + 1)) = sBst z (sN S 11) (sN S 12) (fun v => v % 4 < sN S 10 (v / 4)) (4 * f + j) := sBst_skip (by omega) (fun v h1 h2 => by
      rw [show v / 4 = f by omega]
      omega)
    rw [hsk] at ih
    cases hb : sBst z (sN S 11) (sN S 12) (fun v => v % 4 < sN S 10 (v / 4)) (4 * f + j) with
    | none =>
      rw [hb] at ih
      show Z X MX2_nearestTo _ _ _ [_, _, some .null, _, _, _] _ _
      refine z_go 90 rfl ?_
      rw [show nI f + (1 : Int32) = nI (f + 1) from n_succ f]
      refine z_cV h8 (k_count G I R) KX2_count IX2_count VX2_count rfl rfl rfl PX2_count rfl rfl rfl rfl ?_
      exact ih _ _
    | some y =>
      rw [hb] at ih
      show Z X MX2_nearestTo _ _ _ [_, _, some (.ref (D 14 y)), _, _, _] _ _
      refine z_go 90 rfl ?_
      rw [show nI f + (1 : Int32) = nI (f + 1) from n_succ f]
      refine z_cV h8 (k_count G I R) KX2_count IX2_count VX2_count rfl rfl rfl PX2_count rfl rfl rfl rfl ?_
      exact ih _ _
  rw [n_le (by omega) (by omega)] at d
  have hvd : zvd S K 14 (4 * f + j) := ⟨by omega, by
    rw [show (4 * f + j) % 4 = j by omega, show (4 * f + j) / 4 = f by omega]
    omega⟩
  have hk' := R.1 14 (4 * f + j) hvd
  have ihj := ihj (by omega)
  have hst : sBst z (sN S 11) (sN S 12) (fun v => v % 4 < sN S 10 (v / 4)) (4 * f + (j + 1)) = sNr z (sN S 11) (sN S 12) (sBst z (sN S 11) (sN S 12) (fun v => v % 4 < sN S 10 (v / 4)) (4 * f + j)) (4 * f + j) := zif_pos hvd.2
  rw [hst] at ihj
  cases hb : sBst z (sN S 11) (sN S 12) (fun v => v % 4 < sN S 10 (v / 4)) (4 * f + j) with
  | none =>
    rw [hb] at ihj
    show Z X MX2_nearestTo _ _ _ [_, _, some .null, _, _, _] _ _
    refine z_go 90 rfl ?_
    refine z_cV B.1 (c_get G (b := D 14 (4 * f + j)) j B (i_nI (by omega)) (by omega) (if_pos (by show j < sN S 10 f; omega))) KJx4a65c_get_915e3 IJx4a65c_get_915e3 VJx4a65c_get_915e3 rfl rfl rfl PJx4a65c_get_915e3 rfl rfl rfl rfl ?_
    refine z_cast hk' rfl rfl (by decide +kernel) ?_
    refine z_go 90 rfl ?_
    refine z_cN (c_nearer0 G (nI z)) KX10_nearer SX10_nearer rfl rfl PX10_nearer rfl rfl rfl rfl ?_
    refine z_go 90 rfl ?_
    rw [show nI j + (1 : Int32) = nI (j + 1) from n_succ j]
    refine z_cV B.1 (c_size (z := .null) G B.1) KJx4a65c_size_8abf5 IJx4a65c_size_8abf5 VJx4a65c_size_8abf5 rfl rfl rfl PJx4a65c_size_8abf5 rfl rfl rfl rfl ?_
    exact ihj
  | some y =>
    rw [hb] at ihj
    have hy9 := sBst_lt hb
    have hj' := R.1 14 y ⟨by omega, hy9.2⟩
    show Z X MX2_nearestTo _ _ _ [_, _, some (.ref (D 14 y)), _, _, _] _ _
    refine z_go 90 rfl ?_
    refine z_cV B.1 (c_get G (b := D 14 (4 * f + j)) j B (i_nI (by omega)) (by omega) (if_pos (by show j < sN S 10 f; omega))) KJx4a65c_get_915e3 IJx4a65c_get_915e3 VJx4a65c_get_915e3 rfl rfl rfl PJx4a65c_get_915e3 rfl rfl rfl rfl ?_
    refine z_cast hk' rfl rfl (by decide +kernel) ?_
    refine z_go 90 rfl ?_
    refine z_cN (c_nearer10 G hj' hk' z (by omega) (l5 _) (l6 _) (l5 _) (l6 _)) KX10_nearer SX10_nearer rfl rfl PX10_nearer rfl rfl rfl rfl ?_
    obtain ⟨y', hy, e⟩ := sNr_s z (sN S 11) (sN S 12) y (4 * f + j) (D 14)
    rw [hy] at ihj
    rw [e]
    refine z_go 90 rfl ?_
    rw [show nI j + (1 : Int32) = nI (j + 1) from n_succ j]
    refine z_cV B.1 (c_size (z := .null) G B.1) KJx4a65c_size_8abf5 IJx4a65c_size_8abf5 VJx4a65c_size_8abf5 rfl rfl rfl PJx4a65c_size_8abf5 rfl rfl rfl rfl ?_
    exact ihj
end ZCF
