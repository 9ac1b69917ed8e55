section ZCV
variable {X : zCx} {S : zS} {D : Nat → Nat → Nat} {W : Nat → Nat → Int32} {K : Nat → Nat → Nat} {h : zHp} {cc : Nat}
theorem k_varOf1 (G : zG X) (I : sInv S cc) (R : zRel X S D W K h) (f j : Nat) (hf : f < sN S 14 0) (hj : j < sN S 10 f) : ZM X MX10_variableOf 7 290 [.ref (D 0 0), .int (nI f), .int (nI j)] h (zX h (some (.ref (D 14 (4 * f + j))))) := by
  obtain ⟨I0, In, Ig, If, Ib, Iq, Ih, Im, c1, c2, c3, c4⟩ := id I
  have f1 := If.1
  have v4 := (If.2 f hf).2.2.2.2.2.2.2.1
  have h8 := R.1 8 0 ⟨rfl, by decide⟩
  have A : zAl X h (D 9 0) (D 10 0) (W 9 0) (sN S 14 0) (K 10 0) (zes S D K 9 0) := zRel_al R (r := 9) (i := 0) (Or.inl ⟨rfl, by decide⟩)
  have B : zAl X h (D 12 f) (D 13 f) (W 12 f) (sN S 10 f) (K 13 f) (zes S D K 12 f) := zRel_al R (r := 12) (i := f) (Or.inr ⟨rfl, hf⟩)
  have hfr := R.1 11 f hf
  have hvd : zvd S K 14 (4 * f + j) := ⟨by omega, by
    rw [show (4 * f + j) % 4 = j by omega, show (4 * f + j) / 4 = f by omega]
    omega⟩
  have hk' := R.1 14 (4 * f + j) hvd
  have tf := i_nI (n := f) (by omega)
  have tj := i_nI (n := j) (by omega)
  have t14 := i_nI (n := sN S 14 0) (by omega)
  have t10 := i_nI (n := sN S 10 f) (by omega)
  refine zm_of_z G KX10_variableOf rfl rfl ?_
  refine z_go 90 rfl ?_
  refine z_get (zRel_0 R) rfl rfl rfl rfl ?_
  refine z_cV h8 (k_count G I R) KX2_count IX2_count VX2_count rfl rfl rfl PX2_count rfl rfl rfl rfl ?_
  refine z_cS (c_index1 G (nI f) (nI (sN S 14 0)) (by omega) (by omega)) KX10_demandIndex SX10_demandIndex rfl rfl PX10_demandIndex rfl rfl rfl rfl ?_
  refine z_go 90 rfl ?_
  refine z_get (zRel_0 R) rfl rfl rfl rfl ?_
  refine z_get h8 rfl rfl rfl rfl ?_
  refine z_go 90 rfl ?_
  refine z_cV A.1 (c_get G (b := D 11 f) f A tf hf (if_pos (by show f < sN S 14 0; omega))) KJx4a65c_get_915e3 IJx4a65c_get_915e3 VJx4a65c_get_915e3 rfl rfl rfl PJx4a65c_get_915e3 rfl rfl rfl rfl ?_
  refine z_cast hfr rfl rfl (by decide +kernel) ?_
  refine z_get hfr rfl rfl rfl rfl ?_
  refine z_go 90 rfl ?_
  refine z_cV B.1 (c_size (z := .null) G B.1) KJx4a65c_size_8abf5 IJx4a65c_size_8abf5 VJx4a65c_size_8abf5 rfl rfl rfl PJx4a65c_size_8abf5 rfl rfl rfl rfl ?_
  refine z_cS (c_index1 G (nI j) (nI (sN S 10 f)) (by omega) (by omega)) KX10_demandIndex SX10_demandIndex rfl rfl PX10_demandIndex rfl rfl rfl rfl ?_
  refine z_go 90 rfl ?_
  refine z_cV B.1 (c_get G (b := D 14 (4 * f + j)) j B tj hj (if_pos (by show j < sN S 10 f; omega))) KJx4a65c_get_915e3 IJx4a65c_get_915e3 VJx4a65c_get_915e3 rfl rfl rfl PJx4a65c_get_915e3 rfl rfl rfl rfl ?_
  refine z_cast hk' rfl rfl (by decide +kernel) ?_
  exact z_aret (r := some (D 14 (4 * f + j))) rfl rfl (Or.inl ⟨_, rfl⟩) ⟨rfl, rfl⟩
theorem k_varOf0 (G : zG X) (I : sInv S cc) (R : zRel X S D W K h) (p q : Int32) (hn : sNoV S p q) (hlim : zLim X (zadd h 1 6)) : ZM X MX10_variableOf 7 290 [.ref (D 0 0), .int p, .int q] h (zXT (zadd h 1 6) zIOE) := by
  obtain ⟨I0, In, Ig, If, Ib, Iq, Ih, Im, c1, c2, c3, c4⟩ := id I
  have f1 := If.1
  have h8 := R.1 8 0 ⟨rfl, by decide⟩
  have A : zAl X h (D 9 0) (D 10 0) (W 9 0) (sN S 14 0) (K 10 0) (zes S D K 9 0) := zRel_al R (r := 9) (i := 0) (Or.inl ⟨rfl, by decide⟩)
  have t14 := i_nI (n := sN S 14 0) (by omega)
  refine zm_of_z G KX10_variableOf rfl rfl ?_
  refine z_go 90 rfl ?_
  refine z_get (zRel_0 R) rfl rfl rfl rfl ?_
  refine z_cV h8 (k_count G I R) KX2_count IX2_count VX2_count rfl rfl rfl PX2_count rfl rfl rfl rfl ?_
  refine z_ite (p := p.toInt < 0 ∨ (sN S 14 0 : Int) ≤ p.toInt) (fun bp => ?_) (fun bp => ?_)
  · exact z_cST (c_index0 G p (nI (sN S 14 0)) (by omega) hlim) KX10_demandIndex SX10_demandIndex rfl rfl PX10_demandIndex rfl rfl rfl rfl rfl ⟨rfl, rfl⟩
  obtain ⟨f, rfl, hf9⟩ := i_nat (x := p) (by omega)
  rw [i_nI hf9] at bp
  have hf : f < sN S 14 0 := by omega
  have v4 := (If.2 f hf).2.2.2.2.2.2.2.1
  have tf := i_nI (n := f) (by omega)
  have hfr := R.1 11 f hf
  have B : zAl X h (D 12 f) (D 13 f) (W 12 f) (sN S 10 f) (K 13 f) (zes S D K 12 f) := zRel_al R (r := 12) (i := f) (Or.inr ⟨rfl, hf⟩)
  have t10 := i_nI (n := sN S 10 f) (by omega)
  unfold sNoV at hn
  rw [tf, Int.toNat_natCast] at hn
  refine z_cS (c_index1 G (nI f) (nI (sN S 14 0)) (by omega) (by omega)) KX10_demandIndex SX10_demandIndex rfl rfl PX10_demandIndex rfl rfl rfl rfl ?_
  refine z_go 90 rfl ?_
  refine z_get (zRel_0 R) rfl rfl rfl rfl ?_
  refine z_get h8 rfl rfl rfl rfl ?_
  refine z_go 90 rfl ?_
  refine z_cV A.1 (c_get G (b := D 11 f) f A tf hf (if_pos (by show f < sN S 14 0; omega))) KJx4a65c_get_915e3 IJx4a65c_get_915e3 VJx4a65c_get_915e3 rfl rfl rfl PJx4a65c_get_915e3 rfl rfl rfl rfl ?_
  refine z_cast hfr rfl rfl (by decide +kernel) ?_
  refine z_get hfr rfl rfl rfl rfl ?_
  refine z_go 90 rfl ?_
  refine z_cV B.1 (c_size (z := .null) G B.1) KJx4a65c_size_8abf5 IJx4a65c_size_8abf5 VJx4a65c_size_8abf5 rfl rfl rfl PJx4a65c_size_8abf5 rfl rfl rfl rfl ?_
  exact z_cST (c_index0 G q (nI (sN S 10 f)) (by omega) hlim) KX10_demandIndex SX10_demandIndex rfl rfl PX10_demandIndex rfl rfl rfl rfl rfl ⟨rfl, rfl⟩
end ZCV
