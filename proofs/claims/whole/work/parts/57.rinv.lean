/-! what holds between calls is kept by each call -/
theorem sTells_inv1 {S : zS} {c : Nat} (I : sInv S c) (hc : c < 512) {kd w many wr : Int32} {z : Int} : sInv (sTells S kd z w many wr) (c + 1) := sTells_inv I (Nat.le_refl _) hc
theorem sInv_T1 {S : zS} {c : Nat} (I : sInv S c) (hc : c < 512) (w : Int32) (hw : 0 ≤ w.toInt ∧ w.toInt < 10000) : sInv (sThrow S w) (c + 1) := sInv_more (sInv_T I w hw) (by omega) (by omega)
theorem sRight_inv {S : zS} {c : Nat} (I : sInv S c) (hc : c < 512) {p : Int32} {a b : Nat} {many wr : Int32} : sInv (sRight S p a b many wr).2 (c + 1) := by
  cases hq : sFw S p a b with
  | none => rw [sRight_n hq]; exact sInv_more I (by omega) (by omega)
  | some k => rw [sRight_s hq]; exact sTells_inv1 I hc
theorem sByt_i (v : Int64) (k : Nat) : (sByt v k).toInt8.toInt32 = sByt v k := b_idem _
section ZKI
variable {S : zS} {c : Nat}
theorem sLoad_inv (I : sInv S c) (hc : c < 512) (p q : Int32) : sInv (sLoad S p q).2 (c + 1) := by
  unfold sLoad
  by_cases h : q.toInt < 1 ∨ 8 < q.toInt
  · rw [zif_pos h]; exact sInv_T1 I hc 1 (by decide)
  · rw [zif_neg h]
    split
    · exact sInv_T1 I hc 0 (by decide)
    · exact sRight_inv (sInv_T I 0 (by decide)) hc
theorem sStore_inv (I : sInv S c) (hc : c < 512) (p q : Int32) (v : Int64) : sInv (sStore S p q v).2 (c + 1) := by
  unfold sStore
  by_cases h : q.toInt < 1 ∨ 8 < q.toInt
  · rw [zif_pos h]; exact sInv_T1 I hc 1 (by decide)
  · rw [zif_neg h]
    split
    · exact sMw_inv (sInv_T1 I hc 0 (by decide)) (fun k _ => sByt_i v k)
    · exact sRight_inv (sInv_T I 0 (by decide)) hc
theorem sFill_inv (I : sInv S c) (hc : c < 512) (p q v : Int32) : sInv (sFill S p q v).2 (c + 1) := by
  unfold sFill
  by_cases h : sNoA S q
  · rw [zif_pos h]; exact sInv_T1 I hc 1 (by decide)
  · rw [zif_neg h]
    split
    · exact sMw_inv (sInv_T1 I hc 0 (by decide)) (fun k _ => b_idem v)
    · exact sRight_inv (sInv_T I 0 (by decide)) hc
theorem sCopied_inv (I : sInv S c) (p q : Int32) (n : Nat) : sInv (sCopied S p q n) c := by
  refine sMw_inv ?_ (fun k _ => I.2.2.2.2.2.2.2.1 _)
  obtain ⟨I0, In, Ig, If, Ib, Iq, Ih, Im, Ic⟩ := I
  exact ⟨sI0_V I0 (fun h => by cases h), In, Ig, If, Ib, Iq, Ih, Im, Ic⟩
theorem sCopies_inv (I : sInv S c) (hc : c < 512) (p q w : Int32) (n : Nat) : sInv (sCopies S p q w n).2 (c + 1) := by
  unfold sCopies
  by_cases h : sOnto p q w n
  · rw [zif_pos h]; exact sTells_inv1 I hc
  · rw [zif_neg h]
    split
    · exact sRight_inv I hc
    · split
      · exact sRight_inv I hc
      · exact sInv_more (sCopied_inv I p q n) (by omega) (by omega)
theorem sCopy_inv (I : sInv S c) (hc : c < 512) (p q r w : Int32) : sInv (sCopy S p q r w).2 (c + 1) := by
  unfold sCopy
  by_cases h : sNoA S r
  · rw [zif_pos h]; exact sInv_T1 I hc 1 (by decide)
  · rw [zif_neg h]; exact sCopies_inv (sInv_T I 0 (by decide)) hc _ _ _ _
theorem sLen_inv (I : sInv S c) (hc : c < 512) (p : Int32) : sInv (sLen S p).2 (c + 1) := by
  unfold sLen
  split
  · rename_i k _
    by_cases h : sWr S (p.toInt + k) ≠ 0
    · rw [zif_pos h]; exact sRight_inv I hc
    · rw [zif_neg h]; exact sInv_more I (by omega) (by omega)
  · exact sInv_more I (by omega) (by omega)
theorem sLength_inv (I : sInv S c) (hc : c < 512) (p : Int32) : sInv (sLength S p).2 (c + 1) := sLen_inv (sInv_T I 0 (by decide)) hc p
theorem sText_inv (I : sInv S c) (hc : c < 512) (p q : Int32) : sInv (sText S p q).2 (c + 1) := by
  unfold sText
  split
  · exact sLen_inv (sInv_T I 0 (by decide)) hc q
  · exact sCopies_inv (sInv_T I 0 (by decide)) hc _ _ _ _
theorem sComp_inv (I : sInv S c) (hc : c < 512) (p q r : Int32) : sInv (sComp S p q r).2 (c + 1) := by
  unfold sComp
  by_cases h : sNoA S r
  · rw [zif_pos h]; exact sInv_T1 I hc 1 (by decide)
  · rw [zif_neg h]
    have J := sInv_T I 0 (by decide)
    unfold sCmpB
    split
    · exact sInv_more J (by omega) (by omega)
    · rename_i k _
      by_cases h1 : sWr (sThrow S 0) (p.toInt + k) ≠ 0
      · rw [zif_pos h1]; exact sRight_inv J hc
      · rw [zif_neg h1]
        by_cases h2 : sWr (sThrow S 0) (q.toInt + k) ≠ 0
        · rw [zif_pos h2]; exact sRight_inv J hc
        · rw [zif_neg h2]; exact sInv_more J (by omega) (by omega)
theorem sChange_inv (I : sInv S c) (hc : c < 512) (p q v w : Int32) (hw : w = 0 ∨ w = 247) : sInv (sChange S p q v w).2 (c + 1) := by
  unfold sChange
  by_cases h : sBadC S p q
  · rw [zif_pos h]; exact sInv_T1 I hc 1 (by decide)
  · rw [zif_neg h]
    obtain ⟨I0, In, Ig, If, Ib, Iq, Ih, Im, Ic⟩ := sInv_T1 I hc 0 (by decide)
    refine ⟨?_, In, Ig, If, Ib, Iq, ?_, Im, Ic⟩
    · refine sI0_V I0 fun _ g => ?_
      by_cases q1 : g < sN S 1 0 / 8 ∧ sChC (sThrow S 0) p q.toInt.toNat v g
      · rw [zif_pos q1]
        rcases hw with rfl | rfl <;> decide
      · rw [zif_neg q1]; exact I0 4 g rfl
    · intro g
      have e : sN (sChS (sThrow S 0) p q.toInt.toNat v w (sN S 1 0 / 8)) 4 g = zif (g < sN S 1 0 / 8 ∧ sChC (sThrow S 0) p q.toInt.toNat v g) w.toInt.toNat (sN (sThrow S 0) 4 g) := by
        unfold sChS
        rw [sN_V]
        by_cases q1 : g < sN S 1 0 / 8 ∧ sChC (sThrow S 0) p q.toInt.toNat v g
        · rw [zif_pos q1, zif_pos q1]
        · rw [zif_neg q1, zif_neg q1]; rfl
      have e1 : sN (sChS (sThrow S 0) p q.toInt.toNat v w (sN S 1 0 / 8)) 1 0 = sN (sThrow S 0) 1 0 := rfl
      show sN (sChS (sThrow S 0) p q.toInt.toNat v w (sN S 1 0 / 8)) 4 g ≤ 255 ∧ (1 ≤ sN (sChS (sThrow S 0) p q.toInt.toNat v w (sN S 1 0 / 8)) 4 g → sN (sChS (sThrow S 0) p q.toInt.toNat v w (sN S 1 0 / 8)) 4 g ≤ 7 → g + 1 < sN (sChS (sThrow S 0) p q.toInt.toNat v w (sN S 1 0 / 8)) 1 0 / 8)
      rw [e, e1]
      by_cases q1 : g < sN S 1 0 / 8 ∧ sChC (sThrow S 0) p q.toInt.toNat v g
      · rw [zif_pos q1]
        rcases hw with rfl | rfl
        · exact ⟨by decide, fun z => absurd z (by decide)⟩
        · exact ⟨by decide, fun _ z => absurd z (by decide)⟩
      · rw [zif_neg q1]; exact Ih g
theorem sReport_inv (I : sInv S c) (hc : c < 512) (p q : Int32) : sInv (sReport S p q).2 (c + 1) := by
  unfold sReport
  by_cases h : p.toInt < 0 ∨ (sN S 27 0 : Int) ≤ p.toInt
  · rw [zif_pos h]; exact sInv_T1 I hc 1 (by decide)
  · rw [zif_neg h]
    by_cases h2 : q.toInt < 0 ∨ 9 < q.toInt
    · rw [zif_pos h2]; exact sInv_T1 I hc 2 (by decide)
    · rw [zif_neg h2]; exact sInv_T1 I hc 0 (by decide)
theorem sBlock_inv (I : sInv S c) (hc : c < 512) (p q : Int32) : sInv (sBlock S p q).2 (c + 1) := by
  unfold sBlock
  by_cases h : p.toInt < 0 ∨ (sN S 23 0 : Int) ≤ p.toInt
  · rw [zif_pos h]; exact sInv_T1 I hc 1 (by decide)
  · rw [zif_neg h]
    by_cases h2 : q.toInt < 0 ∨ 7 < q.toInt
    · rw [zif_pos h2]; exact sInv_T1 I hc 2 (by decide)
    · rw [zif_neg h2]; exact sInv_T1 I hc 0 (by decide)
theorem sVar_inv (I : sInv S c) (hc : c < 512) (p q : Int32) : sInv (sVar S p q).2 (c + 1) := by
  unfold sVar
  by_cases h : sNoV S p q
  · rw [zif_pos h]; exact sInv_T1 I hc 1 (by decide)
  · rw [zif_neg h]; exact sInv_T1 I hc 0 (by decide)
theorem sWk_inv (I : sInv S c) (hc : c < 512) : sInv (sWk (sThrow S 0)) (c + 1) := sInv_28 (sInv_T1 I hc 0 (by decide)) _
theorem sLostC_inv (I : sInv S c) (hc : c < 512) (p w : Int32) : sInv (sLostC S p w).2 (c + 1) := sWk_inv I hc
theorem sTold_inv (I : sInv S c) (hc : c < 512) (p : Int32) : sInv (sTold S p).2 (c + 1) := by
  unfold sTold
  by_cases h : p.toInt < 0 ∨ 11 < p.toInt
  · rw [zif_pos h]; exact sInv_T1 I hc 1 (by decide)
  · rw [zif_neg h]
    dsimp only
    split
    · exact sWk_inv I hc
    · exact sInv_T1 I hc 0 (by decide)
theorem sShadow_inv (I : sInv S c) (hc : c < 512) (p : Int32) : sInv (sShadow S p).2 (c + 1) := by
  unfold sShadow
  by_cases h : p.toInt < 0 ∨ (sN S 1 0 / 8 : Nat) ≤ p.toInt
  · rw [zif_pos h]; exact sInv_T1 I hc 1 (by decide)
  · rw [zif_neg h]; exact sInv_T1 I hc 0 (by decide)
theorem sPeek_inv (I : sInv S c) (hc : c < 512) (p : Int32) : sInv (sPeek S p).2 (c + 1) := by
  unfold sPeek
  by_cases h : p.toInt < 0 ∨ (sN S 1 0 : Int) ≤ p.toInt
  · rw [zif_pos h]; exact sInv_T1 I hc 1 (by decide)
  · rw [zif_neg h]; exact sInv_T1 I hc 0 (by decide)
theorem sHeld_inv (I : sInv S c) (hc : c < 512) (p : Int32) : sInv (sHeld S p).2 (c + 1) := by
  unfold sHeld
  by_cases h : p.toInt < 0 ∨ (sN S 25 0 : Int) ≤ p.toInt
  · rw [zif_pos h]; exact sInv_T1 I hc 1 (by decide)
  · rw [zif_neg h]; exact sInv_T1 I hc 0 (by decide)
theorem sGivenB_inv (I : sInv S c) (hc : c < 512) {kd : Int32} {n : Nat} {site : Int32} (h1 : 0 ≤ kd.toInt) (h2 : kd.toInt ≤ 2) (hn : n ≤ sN S 1 0) : sInv (sGivenB S kd n site).2 (c + 1) := by
  obtain ⟨J, j2, j3, j4⟩ := sMake_inv (n := sCh n) _ S I rfl
  unfold sGivenB
  split
  · exact sInv_more J (by omega) (by omega)
  · rename_i a ha
    rw [ha] at j2
    exact sGive_inv J j2.symm (by omega) h1 h2 (Nat.le_refl _) hc
theorem sAlloc_inv (I : sInv S c) (hc : c < 512) (p q r : Int32) : sInv (sAlloc S p q r).2 (c + 1) := by
  unfold sAlloc
  by_cases h : sBadA S p q
  · rw [zif_pos h]; exact sInv_T1 I hc 1 (by decide)
  · rw [zif_neg h]
    unfold sBadA at h
    exact sGivenB_inv (sInv_T I 0 (by decide)) hc (by omega) (by omega) (by show _ ≤ sN S 1 0; omega)
theorem sMay_inv (I : sInv S c) (hc : c < 512) (kd p : Int32) : sInv (sMay S kd p).2 (c + 1) := by
  unfold sMay
  split
  · split
    · exact sInv_more I (by omega) (by omega)
    · exact sTells_inv1 I hc
  · split
    · exact sTells_inv1 I hc
    · exact sTells_inv1 I hc
theorem sFreeC_inv (I : sInv S c) (hc : c < 512) (p q r : Int32) : sInv (sFreeC S p q r).2 (c + 1) := by
  unfold sFreeC
  by_cases h : p.toInt < 0 ∨ 2 < p.toInt
  · rw [zif_pos h]; exact sInv_T1 I hc 1 (by decide)
  · rw [zif_neg h]
    by_cases h2 : q = -1
    · rw [zif_pos h2]; exact sInv_T1 I hc 0 (by decide)
    · rw [zif_neg h2]
      have J := sInv_T I 0 (by decide)
      split
      · rename_i b hb
        obtain ⟨m1, m2, m3, m4, m5⟩ := sMay_s hb
        have h25 := J.2.2.2.2.2.2.2.2.2.2.1
        exact sGoes_inv J m2 (by show ((sThrow S 0) 18 b).toInt.toNat = 0; rw [m4]; rfl) (by omega) (by omega) (by omega)
      · exact sMay_inv J hc p q
theorem sResB_inv (I : sInv S c) (hc : c < 512) {b n : Nat} {r : Int32} (hb : b < sN S 23 0) (hl : sN S 18 b = 0) (hn : n ≤ sN S 1 0) : sInv (sResB S b n r).2 (c + 1) := by
  unfold sResB
  split
  · obtain ⟨J, -⟩ := sMake_inv (n := sCh n) _ S I rfl
    exact sInv_more J (by omega) (by omega)
  · rename_i a ha
    obtain ⟨J, j1, j2, j3, j4, j5, j6, j7⟩ := sRes_f (r := r) I hb hl hn hc ha
    exact sGoes_inv (sMw_inv J (fun k hk => J.2.2.2.2.2.2.2.1 _)) j5 j4 (by show sN (sGive (sMake (sCh n) (sN S 25 0) S).1 0 n r a) 25 0 + 1 ≤ _; omega) (by omega) (by omega)
theorem sRes_inv (I : sInv S c) (hc : c < 512) (p q r : Int32) : sInv (sRes S p q r).2 (c + 1) := by
  unfold sRes
  by_cases h : q.toInt < 0 ∨ (sN S 1 0 : Int) < q.toInt
  · rw [zif_pos h]; exact sInv_T1 I hc 1 (by decide)
  · rw [zif_neg h]
    have J := sInv_T I 0 (by decide)
    by_cases h2 : p = -1
    · rw [zif_pos h2]
      exact sGivenB_inv J hc (by decide) (by decide) (by show _ ≤ sN S 1 0; omega)
    · rw [zif_neg h2]
      split
      · rename_i b hb
        obtain ⟨m1, m2, m3, m4, m5⟩ := sMay_s hb
        exact sResB_inv J hc m2 (by show ((sThrow S 0) 18 b).toInt.toNat = 0; rw [m4]; rfl) (by show _ ≤ sN S 1 0; omega)
      · exact sMay_inv J hc 0 p
end ZKI
