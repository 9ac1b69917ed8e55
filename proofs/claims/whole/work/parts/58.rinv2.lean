section ZK2
variable {S : zS} {c : Nat}
theorem sGlob_inv (I : sInv S c) {n : Nat} (h1 : 1 ≤ n) (h2 : n ≤ 512) (h3 : sGat S + n + 32 ≤ sN S 1 0 / 8) : sInv (sGlob S n) c := by
  obtain ⟨I0, In, Ig, If, Ib, Iq, Ih, Im, Ic⟩ := I
  obtain ⟨N1, N2, N3, N4⟩ := id In
  have g1 := Ig.1
  have hat : sGat S % 32 = 0 ∧ 64 * sN S 7 0 ≤ sGat S := by
    unfold sGat
    split
    · omega
    · obtain ⟨q1, q2, q3, q4, q5⟩ := Ig.2 (sN S 7 0 - 1) (by omega)
      omega
  have e7 : sN (sGlob S n) 7 0 = sN S 7 0 + 1 := by
    show (nI (sN S 7 0 + 1)).toInt.toNat = _
    rw [i_nI (by omega)]; rfl
  have e5 : ∀ i, sN (sGlob S n) 5 i = if i = sN S 7 0 then sGat S else sN S 5 i := by
    intro i
    show (upd (S 5) (sN S 7 0) (nI (sGat S)) i).toInt.toNat = _
    unfold upd
    split
    · rw [i_nI (by omega)]; rfl
    · rfl
  have e6 : ∀ i, sN (sGlob S n) 6 i = if i = sN S 7 0 then n else sN S 6 i := by
    intro i
    show (upd (S 6) (sN S 7 0) (nI n) i).toInt.toNat = _
    unfold upd
    split
    · rw [i_nI (by omega)]; rfl
    · rfl
  have eN : sN (sGlob S n) 1 0 = sN S 1 0 := rfl
  refine ⟨?_, In, ⟨by rw [e7]; omega, fun k hk => ?_⟩, If, Ib, Iq, ?_, Im, Ic⟩
  · refine sI0_open (sI0_n (S := zV (zV S 5 _) 7 _) (sI0_V (sI0_n (S := S) I0 (by omega)) fun _ _ => ?_) (by omega)) (by omega)
    rw [i_nI (by omega)]; omega
  · rw [e7] at hk
    rw [e5, e6, eN]
    by_cases q : k = sN S 7 0
    · rw [if_pos q, if_pos q]; omega
    · rw [if_neg q, if_neg q]; exact Ig.2 k (by omega)
  · exact sIh_open (S := zV (zV (zV S 5 _) 7 _) 6 _) Ih (by omega) (by show sGat S + n + 8 ≤ sN S 1 0; omega) (by show sN S 1 0 % 8 = 0; omega) N2
theorem sGlobal_inv (I : sInv S c) (hc : c < 512) (p : Int32) : sInv (sGlobal S p).2 (c + 1) := by
  unfold sGlobal
  split
  · rename_i h
    unfold sGlobB
    split
    · rename_i h3
      exact sGlob_inv (sInv_T1 I hc 0 (by decide)) (by omega) (by omega) h3
    · exact sInv_T1 I hc 0 (by decide)
  · exact sInv_T1 I hc 1 (by decide)
theorem sLeave_inv (I : sInv S c) (hc : c < 512) : sInv (sLeave S).2 (c + 1) := by
  unfold sLeave
  split
  · exact sInv_T1 I hc 1 (by decide)
  · rename_i h
    obtain ⟨I0, In, Ig, If, Ib, Iq, Ih, Im, Ic⟩ := sInv_T1 I hc 0 (by decide)
    have f1 : sN S 14 0 ≤ 10 := If.1
    have e14 : (nI (sN S 14 0 - 1)).toInt.toNat = sN S 14 0 - 1 := by rw [i_nI (by omega)]; rfl
    refine ⟨sI0_paint (sI0_V I0 fun _ _ => by rw [i_nI (by omega)]; omega) (by decide), In, Ig, ⟨?_, fun f hf => ?_⟩, Ib, Iq, sIh_paint (S := zV (sThrow S 0) 14 _) Ih (by decide) (by decide), Im, Ic⟩
    · show (nI (sN S 14 0 - 1)).toInt.toNat ≤ 10
      omega
    · have hf' : f < (nI (sN S 14 0 - 1)).toInt.toNat := hf
      exact If.2 f (by show f < sN S 14 0; omega)
theorem sScope_inv (I : sInv S c) (hc : c < 512) (p q w : Int32) : sInv (sScope S p q w).2 (c + 1) := by
  unfold sScope
  by_cases h : sNoV S p q
  · rw [zif_pos h]; exact sInv_T1 I hc 1 (by decide)
  · rw [zif_neg h]
    obtain ⟨f, j, rfl, rfl, hf, hj, hv, ⟨v1, v2, v3, v4, v5, v6⟩, v7⟩ := sVar_b I h
    have f1 := I.2.2.2.1.1
    have e10 := sN_lt I.1 (k := 10) (i := f) rfl
    rw [i_nI (show f < 2147483648 by omega), i_nI (show j < 2147483648 by omega), Int.toNat_natCast, Int.toNat_natCast]
    have N1 := I.2.1.1
    have N2 := I.2.1.2.1
    have N3 := I.2.1.2.2.1
    have hpd : sN S 12 (4 * f + j) + 32 ≤ sPad (sN S 12 (4 * f + j)) := by unfold sPad; omega
    have hfe : sN S 9 f ≤ sN S 1 0 / 4 := by
      obtain ⟨g1, g2, g3, g4, -⟩ := I.2.2.2.1.2 f hf
      rw [g4]
      split
      · omega
      · have := (I.2.2.2.1.2 (f - 1) (by omega)).2.1; omega
    have put : ∀ x : Int32, 0 ≤ x.toInt ∧ x.toInt ≤ 1 → sInv (zV (sThrow S 0) 13 (upd (S 13) (4 * f + j) x)) (c + 1) := by
      intro x hx
      obtain ⟨I0, In, Ig, If, Ib, Iq, Ih, Im, Ic⟩ := sInv_T1 I hc 0 (by decide)
      refine ⟨sI0_u (S := sThrow S 0) I0 (fun _ => by omega), In, Ig, ⟨If.1, fun f2 hf2 => ?_⟩, Ib, Iq, Ih, Im, Ic⟩
      obtain ⟨g1, g2, g3, g4, g5, g6, g7, g8, g9⟩ := If.2 f2 hf2
      refine ⟨g1, g2, g3, g4, g5, g6, g7, g8, fun j2 hj2 => ?_⟩
      obtain ⟨w1, w2, w3, w4, w5, w6⟩ := g9 j2 hj2
      refine ⟨w1, w2, w3, w4, w5, ?_⟩
      show (upd (S 13) (4 * f + j) x (4 * f2 + j2)).toInt.toNat ≤ 1
      unfold upd
      split
      · omega
      · exact w6
    split
    · dsimp only
      split
      · obtain ⟨I0, In, Ig, If, Ib, Iq, Ih, Im, Ic⟩ := put 1 (by decide)
        exact ⟨sI0_paint I0 (by decide), In, Ig, If, Ib, Iq, sIh_paint Ih (by decide) (by decide), Im, Ic⟩
      · obtain ⟨I0, In, Ig, If, Ib, Iq, Ih, Im, Ic⟩ := put 0 (by decide)
        exact ⟨sI0_open I0 (by omega), In, Ig, If, Ib, Iq, sIh_open Ih v1 (by show sN S 11 (4 * f + j) + sN S 12 (4 * f + j) + 8 ≤ sN S 1 0; omega) (by show sN S 1 0 % 8 = 0; omega) N2, Im, Ic⟩
    · exact sInv_T1 I hc 0 (by decide)
theorem sIni_inv (p q : Int32) : sInv (sIni p q) 0 := by
  have hN := sNn_b p
  have hQ := sQq_b p q
  have e1 : sN (sIni p q) 1 0 = sNn p := by
    show (nI (sNn p)).toInt.toNat = _
    rw [i_nI (by omega)]; rfl
  have e2 : sN (sIni p q) 2 0 = sQq p q := by
    show (nI (sQq p q)).toInt.toNat = _
    rw [i_nI (by omega)]; rfl
  refine ⟨?_, ⟨by rw [e1]; omega, by rw [e1]; omega, by rw [e1]; omega, by rw [e1, e2]; exact hQ⟩, ⟨by show (0 : Int32).toInt.toNat ≤ 16; decide, fun k hk => ?_⟩, ⟨by show (0 : Int32).toInt.toNat ≤ 10; decide, fun k hk => ?_⟩, ⟨fun k hk => ?_, fun k _ hk => ?_⟩, ⟨fun k hk => ?_, fun k _ hk => ?_⟩, fun g => ?_, fun i => rfl, by decide, by show (0 : Int32).toInt.toNat ≤ 0; decide, by show (0 : Int32).toInt.toNat ≤ 0; decide, by show (0 : Int32).toInt.toNat ≤ 0; decide⟩
  · refine sI0_V (sI0_V (sI0_V (fun k i _ => by show 0 ≤ (0 : Int32).toInt ∧ (0 : Int32).toInt < 10000; decide) fun _ _ => ?_) fun _ _ => ?_) fun _ g => ?_
    · rw [i_nI (by omega)]; omega
    · rw [i_nI (by omega)]; omega
    · unfold sIniG
      split
      · split
        · decide
        · split <;> decide
      · decide
  · have : k < 0 := hk
    omega
  · have : k < 0 := hk
    omega
  · have : k < 0 := hk
    omega
  · have : k < 0 := hk
    omega
  · have : k < 0 := hk
    omega
  · have : k < 0 := hk
    omega
  · have e4 : sN (sIni p q) 4 g = (sIniG (sNn p) (sNn p / 8) g).toInt.toNat := rfl
    rw [e4]
    unfold sIniG
    split
    · split
      · exact ⟨by decide, fun _ z => absurd z (by decide)⟩
      · split
        · exact ⟨by decide, fun z => absurd z (by decide)⟩
        · exact ⟨by decide, fun _ z => absurd z (by decide)⟩
    · exact ⟨by decide, fun z => absurd z (by decide)⟩
end ZK2
