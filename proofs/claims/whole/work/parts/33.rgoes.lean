section ZGO
variable {X : zCx} {h : zHp} {m : Nat} {S : zS} {cc : Nat}
def sHold (S : zS) (b : Nat) (site : Int32) : zS := sPaint (zV (zV (zV (zV S 18 (upd (S 18) b 1)) 22 (upd (S 22) b site)) 25 (fun _ => nI (sN S 25 0 + 1))) 24 (upd (S 24) (sN S 25 0) (nI b))) (sN S 15 b) (sN S 15 b + sN S 16 b) 253
def sShed : Nat → zS → zS
  | 0, S => S
  | k + 1, S => if sN S 2 0 < sHB S then sShed k (sOld S) else S
def sGoes (S : zS) (b : Nat) (site : Int32) : zS := sShed (sN S 25 0 + 1) (sHold S b site)
theorem sHold_18 (S : zS) (b i : Nat) (site : Int32) : sN (sHold S b site) 18 i = if i = b then 1 else sN S 18 i := by
  show ((upd (S 18) b 1) i).toInt.toNat = _
  unfold upd
  split <;> rfl
theorem sHold_24 (S : zS) {b : Nat} (hb : b < 10000) (i : Nat) (site : Int32) : sN (sHold S b site) 24 i = if i = sN S 25 0 then b else sN S 24 i := by
  show ((upd (S 24) (sN S 25 0) (nI b)) i).toInt.toNat = _
  unfold upd
  split
  · rw [i_nI (by omega)]; rfl
  · rfl
theorem sHold_25 {S : zS} (I : sI0 S) (b : Nat) (site : Int32) : sN (sHold S b site) 25 0 = sN S 25 0 + 1 := by
  have := sN_lt I (k := 25) (i := 0) rfl
  show (nI (sN S 25 0 + 1)).toInt.toNat = _
  rw [i_nI (by omega)]
  rfl
theorem sHold_inv {S : zS} {c c' b : Nat} {site : Int32} (I : sInv S c) (hb : b < sN S 23 0) (hl : sN S 18 b = 0) (h1 : sN S 25 0 + 1 ≤ c') (h2 : c ≤ c') (h3 : c' ≤ 512) : sInv (sHold S b site) c' := by
  obtain ⟨I0, In, Ig, If, Ib, Iq, Ih, Im, Ic⟩ := I
  obtain ⟨c1, c2, c3, c4⟩ := Ic
  have e25 := sHold_25 I0 b site
  have hb9 : b < 10000 := by omega
  refine ⟨?_, In, Ig, If, ?_, ?_, ?_, Im, h3, by show sN S 23 0 ≤ c'; omega, by rw [e25]; omega, by show sN S 27 0 ≤ c'; omega⟩
  · refine sI0_paint (sI0_V (sI0_V (sI0_V (sI0_V I0 fun _ i => ?_) fun h => by cases h) fun _ _ => ?_) fun _ i => ?_) (by decide)
    · unfold upd
      split
      · decide
      · exact I0 18 _ rfl
    · rw [i_nI (by omega)]; omega
    · unfold upd
      split
      · rw [i_nI (by omega)]; omega
      · exact I0 24 _ rfl
  · refine ⟨fun k hk => ?_, fun k d hk hd hne h1 h2 => ?_⟩
    · obtain ⟨g1, g2, g3, g4, g5, g6, g7, g8⟩ := Ib.1 k hk
      refine ⟨g1, g2, g3, g4, g5, g6, g7, ?_⟩
      rw [sHold_18]
      split <;> omega
    · rw [sHold_18] at h1 h2
      refine Ib.2 k d hk hd hne ?_ ?_
      · intro z; split at h1
        · rename_i q; rw [q, hl] at z; omega
        · exact h1 z
      · intro z; split at h2
        · rename_i q; rw [q, hl] at z; omega
        · exact h2 z
  · refine ⟨fun i hi => ?_, fun i j hi hj he => ?_⟩
    · rw [e25] at hi
      rw [sHold_24 S hb9]
      by_cases q : i = sN S 25 0
      · rw [if_pos q]
        exact ⟨hb, by rw [sHold_18, if_pos rfl]⟩
      · rw [if_neg q]
        obtain ⟨g1, g2⟩ := Iq.1 i (by omega)
        refine ⟨g1, ?_⟩
        rw [sHold_18, if_neg, g2]
        intro z
        rw [z, hl] at g2
        omega
    · rw [e25] at hi hj
      rw [sHold_24 S hb9, sHold_24 S hb9] at he
      by_cases q : i = sN S 25 0
      · by_cases r : j = sN S 25 0
        · omega
        · rw [if_pos q, if_neg r] at he
          have := (Iq.1 j (by omega)).2
          rw [← he, hl] at this
          omega
      · by_cases r : j = sN S 25 0
        · rw [if_neg q, if_pos r] at he
          have := (Iq.1 i (by omega)).2
          rw [he, hl] at this
          omega
        · rw [if_neg q, if_neg r] at he
          exact Iq.2 i j (by omega) (by omega) he
  · exact sIh_paint (S := zV (zV (zV (zV S 18 _) 22 _) 25 _) 24 _) Ih (by decide) (by decide)
theorem sShed_inv {c : Nat} : ∀ (k : Nat) (S : zS), sInv S c → k = sN S 25 0 → sInv (sShed k S) c := by
  intro k
  induction k with
  | zero => intro S I h; exact I
  | succ k ih =>
    intro S I h
    unfold sShed
    split
    · exact ih (sOld S) (sOld_inv I (by omega)) (by rw [sOld_25 I.1]; omega)
    · exact I
theorem sGoes_inv {S : zS} {c c' b : Nat} {site : Int32} (I : sInv S c) (hb : b < sN S 23 0) (hl : sN S 18 b = 0) (h1 : sN S 25 0 + 1 ≤ c') (h2 : c ≤ c') (h3 : c' ≤ 512) : sInv (sGoes S b site) c' := sShed_inv _ _ (sHold_inv I hb hl h1 h2 h3) (sHold_25 I.1 b site).symm
theorem rc_goes (G : zG X) (I : sInv S cc) {c' b : Nat} {site : Int32} (hb : b < sN S 23 0) (hl : sN S 18 b = 0) (h1 : sN S 25 0 + 1 ≤ c') (h2 : cc ≤ c') (h3 : c' ≤ 512) : ZM X MX11_goes 2 154 [.ref m, .int (nI b), .int site] (zr X h m S) (zX (zr X h m (sGoes S b site)) none) := by
  obtain ⟨I0, In, Ig, If, Ib, Iq, Ih, Im, Ic⟩ := id I
  obtain ⟨c1, c2, c3, c4⟩ := Ic
  have IH := sHold_inv (site := site) I hb hl h1 h2 h3
  obtain ⟨g1, g2, g3, g4, g5, g6, g7, g8⟩ := Ib.1 b hb
  have hcb := sCh_b (sN S 16 b)
  have hN := In.2.1
  refine zm_of_z G KX11_goes rfl rfl ?_
  refine z_go 90 rfl ?_
  refine z_get zr_o rfl rfl rfl rfl ?_
  refine z_go 90 rfl ?_
  refine r_st18 b (i_nI (by omega)) (by omega) rfl ?_
  refine z_go 90 rfl ?_
  refine z_get zr_o rfl rfl rfl rfl ?_
  refine z_go 90 rfl ?_
  refine r_st22 b (i_nI (by omega)) (by omega) rfl ?_
  refine z_go 90 rfl ?_
  refine z_get zr_o rfl rfl rfl rfl ?_
  refine z_go 90 rfl ?_
  refine r_v25 (sN_eq I0 rfl) rfl rfl rfl ?_
  refine z_go 90 rfl ?_
  rw [show nI (sN S 25 0) + (1 : Int32) = nI (sN S 25 0 + 1) from n_succ _]
  refine r_p25 rfl rfl rfl ?_
  refine z_go 90 rfl ?_
  refine r_st24 (sN S 25 0) (i_nI (by omega)) (by omega) rfl ?_
  refine z_go 90 rfl ?_
  refine z_get zr_o rfl rfl rfl rfl ?_
  refine z_go 90 rfl ?_
  refine r_lv15 b (sN_eq I0 rfl) (i_nI (by omega)) (by omega) rfl ?_
  refine z_go 90 rfl ?_
  refine z_get zr_o rfl rfl rfl rfl ?_
  refine z_go 90 rfl ?_
  refine r_lv15 b (sN_eq I0 rfl) (i_nI (by omega)) (by omega) rfl ?_
  refine z_go 90 rfl ?_
  refine z_get zr_o rfl rfl rfl rfl ?_
  refine z_go 90 rfl ?_
  refine r_lv16 b (sN_eq I0 rfl) (i_nI (by omega)) (by omega) rfl ?_
  refine z_go 90 rfl ?_
  rw [n_add]
  refine z_cV zr_o (rc_paint G (sN S 15 b) (sN S 15 b + sN S 16 b) 253 (by omega) (by omega)) KX11_paint IX11_paint VX11_paint rfl rfl rfl PX11_paint rfl rfl rfl rfl ?_
  refine z_go 90 rfl ?_
  have H : ∀ k (T : zS), sInv T c' → k = sN T 25 0 → sShed k T = sGoes S b site → Z X MX11_goes (2, 154, h.2.1, h.2.2) (zr X h m T) 58 [some (.ref m), some (.int (nI b)), some (.int site)] [.ref m] (zX (zr X h m (sGoes S b site)) none) := by
    intro k
    induction k with
    | zero =>
      intro T IT hT hG
      have hb0 : sHB T = 0 := by unfold sHB; rw [← hT]; rfl
      have l2 := sN_lt IT.1 (k := 2) (i := 0) rfl
      refine z_cV zr_o (rc_heldBytes G IT) KX11_heldBytes IX11_heldBytes VX11_heldBytes rfl rfl rfl PX11_heldBytes rfl rfl rfl rfl ?_
      refine z_go 90 rfl ?_
      refine r_v2 (sN_eq IT.1 rfl) rfl rfl rfl ?_
      refine z_go 90 rfl ?_
      refine z_br rfl rfl (fun c => ?_) (fun c => ?_) <;> (try dsimp only at c)
      · exact z_vret rfl rfl ⟨by rw [← hG]; rfl, rfl⟩
      · rw [n_le (by omega) (by omega)] at c
        omega
    | succ k ih =>
      intro T IT hT hG
      have hb0 := sHB_le IT
      have l2 := sN_lt IT.1 (k := 2) (i := 0) rfl
      unfold sShed at hG
      refine z_cV zr_o (rc_heldBytes G IT) KX11_heldBytes IX11_heldBytes VX11_heldBytes rfl rfl rfl PX11_heldBytes rfl rfl rfl rfl ?_
      refine z_go 90 rfl ?_
      refine r_v2 (sN_eq IT.1 rfl) rfl rfl rfl ?_
      refine z_go 90 rfl ?_
      refine z_br rfl rfl (fun c => ?_) (fun c => ?_) <;> (try dsimp only at c)
      · rw [n_le (by omega) (by omega)] at c
        rw [if_neg (by omega)] at hG
        exact z_vret rfl rfl ⟨by rw [← hG], rfl⟩
      · rw [n_le (by omega) (by omega)] at c
        rw [if_pos (by omega)] at hG
        refine z_go 90 rfl ?_
        refine z_cV zr_o (rc_old G IT (by omega)) KX11_oldestLeaves IX11_oldestLeaves VX11_oldestLeaves rfl rfl rfl PX11_oldestLeaves rfl rfl rfl rfl ?_
        refine z_go 90 rfl ?_
        exact ih (sOld T) (sOld_inv IT (by omega)) (by rw [sOld_25 IT.1]; omega) hG
  exact H _ _ IH (sHold_25 I0 b site).symm rfl
/-- allocate -/
noncomputable def sBadA (S : zS) (p q : Int32) : Prop := p.toInt < 0 ∨ 2 < p.toInt ∨ q.toInt < 0 ∨ (sN S 1 0 : Int) < q.toInt
noncomputable def sAlloc (S : zS) (p q r : Int32) : Int32 × zS := zif (sBadA S p q) (0, sThrow S 1) (sGivenB (sThrow S 0) p q.toInt.toNat r)
theorem sInv_T {S : zS} {c : Nat} (I : sInv S c) (w : Int32) (hw : 0 ≤ w.toInt ∧ w.toInt < 10000) : sInv (sThrow S w) c := ⟨sI0_T I.1 w hw, I.2⟩
theorem rc_alloc (G : zG X) (I : sInv S cc) (p q r : Int32) : ZM X MX11_allocate 3 181 [.ref m, .int p, .int q, .int r] (zr X h m S) (zX (zr X h m (sAlloc S p q r).2) (some (.int (sAlloc S p q r).1))) := by
  have I0 := I.1
  have N2 := I.2.1.2.1
  have t0 : (0 : Int32).toInt = 0 := rfl
  have t2 : (2 : Int32).toInt = 2 := rfl
  have t1 := i_nI (n := sN S 1 0) (by omega)
  refine zm_of_z G KX11_allocate rfl rfl ?_
  refine z_go 90 rfl ?_
  have bad : sBadA S p q → Z X MX11_allocate (3, 181, h.2.1, h.2.2) (zr X h m S) 27 [some (.ref m), some (.int p), some (.int q), some (.int r)] [.int 1, .ref m] (zX (zr X h m (sAlloc S p q r).2) (some (.int (sAlloc S p q r).1))) := by
    intro hb
    refine rr_yes G (by decide) rfl rfl rfl rfl rfl ?_
    refine z_go 90 rfl ?_
    refine z_iret rfl rfl ?_
    unfold sAlloc
    rw [zif_pos hb]
    exact ⟨rfl, rfl⟩
  refine z_br rfl rfl (fun c1 => ?_) (fun c1 => ?_) <;> (try dsimp only at c1)
  · rw [i_lt] at c1
    refine z_go 90 rfl ?_
    exact bad (Or.inl (by omega))
  rw [i_lt] at c1
  refine z_go 90 rfl ?_
  refine z_br rfl rfl (fun c2 => ?_) (fun c2 => ?_) <;> (try dsimp only at c2)
  · rw [i_lt] at c2
    refine z_go 90 rfl ?_
    exact bad (Or.inr (Or.inl (by omega)))
  rw [i_lt] at c2
  refine z_go 90 rfl ?_
  refine z_br rfl rfl (fun c3 => ?_) (fun c3 => ?_) <;> (try dsimp only at c3)
  · rw [i_lt] at c3
    refine z_go 90 rfl ?_
    exact bad (Or.inr (Or.inr (Or.inl (by omega))))
  rw [i_lt] at c3
  refine z_go 90 rfl ?_
  refine r_v1 (sN_eq I0 rfl) rfl rfl rfl ?_
  refine z_go 90 rfl ?_
  refine z_br rfl rfl (fun c4 => ?_) (fun c4 => ?_) <;> (try dsimp only at c4)
  · rw [i_le] at c4
    refine z_go 90 rfl ?_
    refine rr_no G rfl rfl rfl rfl rfl ?_
    have hS : sAlloc S p q r = sGivenB (sThrow S 0) p q.toInt.toNat r := by
      unfold sAlloc
      rw [zif_neg (by unfold sBadA; omega)]
    rw [hS]
    obtain ⟨n, rfl, hn⟩ := i_nat (x := q) (by omega)
    rw [i_nI hn] at c4 ⊢
    rw [Int.toNat_natCast]
    refine z_go 90 rfl ?_
    refine z_cV zr_o (rc_given G (sInv_T I 0 (by decide)) p r n (by show n ≤ sN S 1 0; omega)) KX11_given IX11_given VX11_given rfl rfl rfl PX11_given rfl rfl rfl rfl ?_
    refine z_go 90 rfl ?_
    exact z_iret rfl rfl ⟨rfl, rfl⟩
  · rw [i_le] at c4
    refine z_go 90 rfl ?_
    exact bad (Or.inr (Or.inr (Or.inr (by omega))))
end ZGO
