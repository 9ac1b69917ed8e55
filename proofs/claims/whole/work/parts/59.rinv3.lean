section ZK3
theorem sEnt1_f (T : zS) (fr e n many next r : Nat) (h4 : r ≠ 4) (h11 : r ≠ 11) (h12 : r ≠ 12) (h13 : r ≠ 13) : sEnt1 T fr e n many next r = T r := by
  unfold sEnt1 sOpen sPaint
  rw [zV_ne _ _ h4, zV_ne _ _ h4, zV_ne _ _ h13, zV_ne _ _ h12, zV_ne _ _ h11]
theorem sEnt1_v (T : zS) (fr e n many next i : Nat) (hn : n ≤ 128) (hx : next ≤ 9000) : sN (sEnt1 T fr e n many next) 11 i = (if i = 4 * fr + many then next else sN T 11 i) ∧ sN (sEnt1 T fr e n many next) 12 i = (if i = 4 * fr + many then n else sN T 12 i) ∧ sN (sEnt1 T fr e n many next) 13 i = (if i = 4 * fr + many then 0 else sN T 13 i) := by
  refine ⟨?_, ?_, ?_⟩
  · show (upd (T 11) (4 * fr + many) (nI next) i).toInt.toNat = _
    unfold upd
    split
    · rw [i_nI (by omega)]; rfl
    · rfl
  · show (upd (T 12) (4 * fr + many) (nI n) i).toInt.toNat = _
    unfold upd
    split
    · rw [i_nI (by omega)]; rfl
    · rfl
  · show (upd (T 13) (4 * fr + many) 0 i).toInt.toNat = _
    unfold upd
    split <;> rfl
theorem sEnt1_k {T : zS} {fr e n many next : Nat} (I : sI0 T) (Ih : sIh T) (hn : n ≤ 128) (h1 : 1 ≤ n) (hx : next % 8 = 0) (hb : next + sPad n ≤ sN T 1 0) (hN : sN T 1 0 ≤ 8192) (hN8 : sN T 1 0 % 8 = 0) : sI0 (sEnt1 T fr e n many next) ∧ sIh (sEnt1 T fr e n many next) := by
  have hp : n + 32 ≤ sPad n := by unfold sPad; omega
  constructor
  · refine sI0_open (sI0_paint (sI0_u (S := zV (zV T 11 _) 12 _) (sI0_n (S := zV T 11 _) (sI0_n I (by omega)) (by omega)) (fun _ => by decide)) ?_) (by omega)
    split <;> decide
  · refine sIh_open (sIh_paint (S := zV (zV (zV T 11 _) 12 _) 13 _) Ih ?_ ?_) hx (by show next + n + 8 ≤ sN T 1 0; omega) hN8 hN
    · split <;> decide
    · split <;> decide
/-- the variables that are laid, after k sizes -/
theorem sEntL_k {S0 : zS} {s : Nat → Nat} {fr e at' : Nat} (hs : ∀ k, s k ≤ 128) (I : sI0 S0) (Ih : sIh S0) (hN : sN S0 1 0 ≤ 8192) (hN8 : sN S0 1 0 % 8 = 0) (h8 : at' % 8 = 0) (hb : at' + 32 + zSum (fun i => sSp (s i)) 4 ≤ sN S0 1 0) : ∀ k, k ≤ 4 →
    sI0 (sEntL s fr e (S0, 0, at' + 32) k).1 ∧ sIh (sEntL s fr e (S0, 0, at' + 32) k).1 ∧ (∀ r, r ≠ 4 → r ≠ 11 → r ≠ 12 → r ≠ 13 → (sEntL s fr e (S0, 0, at' + 32) k).1 r = S0 r) ∧
    (∀ v, v < 4 * fr → sN (sEntL s fr e (S0, 0, at' + 32) k).1 11 v = sN S0 11 v ∧ sN (sEntL s fr e (S0, 0, at' + 32) k).1 12 v = sN S0 12 v ∧ sN (sEntL s fr e (S0, 0, at' + 32) k).1 13 v = sN S0 13 v) ∧
    (∀ j, j < (sEntL s fr e (S0, 0, at' + 32) k).2.1 → sN (sEntL s fr e (S0, 0, at' + 32) k).1 11 (4 * fr + j) % 8 = 0 ∧ 1 ≤ sN (sEntL s fr e (S0, 0, at' + 32) k).1 12 (4 * fr + j) ∧ sN (sEntL s fr e (S0, 0, at' + 32) k).1 12 (4 * fr + j) ≤ 128 ∧ at' + 32 ≤ sN (sEntL s fr e (S0, 0, at' + 32) k).1 11 (4 * fr + j) ∧ sN (sEntL s fr e (S0, 0, at' + 32) k).1 11 (4 * fr + j) + sPad (sN (sEntL s fr e (S0, 0, at' + 32) k).1 12 (4 * fr + j)) ≤ (sEntL s fr e (S0, 0, at' + 32) k).2.2 ∧ sN (sEntL s fr e (S0, 0, at' + 32) k).1 13 (4 * fr + j) ≤ 1) ∧
    (0 < zSum (fun i => sSp (s i)) k → 1 ≤ (sEntL s fr e (S0, 0, at' + 32) k).2.1) := by
  intro k
  induction k with
  | zero => exact fun _ => ⟨I, Ih, fun r _ _ _ _ => rfl, fun v _ => ⟨rfl, rfl, rfl⟩, fun j hj => absurd hj (Nat.not_lt_zero _), fun h => absurd h (Nat.lt_irrefl _)⟩
  | succ k ih =>
    intro hk
    obtain ⟨i1, i2, i3, i4, i5, i6⟩ := ih (by omega)
    obtain ⟨-, -, t3, t4⟩ := sEntL_f s fr e (S0, 0, at' + 32) k
    have hmd := sSp_m s k
    have hz : zSum (fun i => sSp (s i)) (k + 1) = zSum (fun i => sSp (s i)) k + sSp (s k) := rfl
    have hmono : zSum (fun i => sSp (s i)) (k + 1) ≤ zSum (fun i => sSp (s i)) 4 := by
      have : k = 0 ∨ k = 1 ∨ k = 2 ∨ k = 3 := by omega
      rcases this with rfl | rfl | rfl | rfl <;> simp only [zSum] <;> omega
    have hE : sEntL s fr e (S0, 0, at' + 32) (k + 1) = if s k = 0 then sEntL s fr e (S0, 0, at' + 32) k else (sEnt1 (sEntL s fr e (S0, 0, at' + 32) k).1 fr e (s k) (sEntL s fr e (S0, 0, at' + 32) k).2.1 (sEntL s fr e (S0, 0, at' + 32) k).2.2, (sEntL s fr e (S0, 0, at' + 32) k).2.1 + 1, (sEntL s fr e (S0, 0, at' + 32) k).2.2 + sPad (s k)) := rfl
    rw [hE, hz]
    have hsk := hs k
    dsimp only at t3 t4
    generalize sEntL s fr e (S0, 0, at' + 32) k = t at *
    obtain ⟨T, many, next⟩ := t
    dsimp only at *
    by_cases c : s k = 0
    · rw [if_pos c]
      refine ⟨i1, i2, i3, i4, i5, fun h => i6 ?_⟩
      have : sSp (s k) = 0 := by unfold sSp; rw [if_pos c]
      omega
    · rw [if_neg c]
      dsimp only
      have hsp : sSp (s k) = sPad (s k) := by unfold sSp; rw [if_neg c]
      have e1 : sN T 1 0 = sN S0 1 0 := by unfold sN; rw [i3 1 (by decide) (by decide) (by decide) (by decide)]
      obtain ⟨k1, k2⟩ := sEnt1_k (fr := fr) (e := e) (many := many) (next := next) i1 i2 hsk (by omega) (by omega) (by omega) (by omega) (by omega)
      have V := sEnt1_v T fr e (s k) many next
      refine ⟨k1, k2, fun r a b c d => by rw [sEnt1_f _ _ _ _ _ _ _ a b c d]; exact i3 r a b c d, fun v hv => ?_, fun j hj => ?_, fun _ => by omega⟩
      · obtain ⟨a, b, c⟩ := V v hsk (by omega)
        rw [a, b, c, if_neg (by omega), if_neg (by omega), if_neg (by omega)]
        exact i4 v hv
      · obtain ⟨a, b, c9⟩ := V (4 * fr + j) hsk (by omega)
        rw [a, b, c9]
        by_cases q : j = many
        · rw [if_pos (by omega), if_pos (by omega), if_pos (by omega)]
          exact ⟨by omega, by omega, hsk, by omega, Nat.le_refl _, by omega⟩
        · rw [if_neg (by omega), if_neg (by omega), if_neg (by omega)]
          obtain ⟨w1, w2, w3, w4, w5, w6⟩ := i5 j (by omega)
          exact ⟨w1, w2, w3, w4, by omega, w6⟩
theorem sEnterB_inv {S : zS} {c : Nat} (I : sInv S c) {s : Nat → Nat} (hs : ∀ k, s k ≤ 128) (hne : 0 < zSum (fun i => sSp (s i)) 4) : sInv (sEnterB S s).2 c := by
  unfold sEnterB
  by_cases hfit : sFe S < 32 + zSum (fun i => sSp (s i)) 4 + sN S 1 0 / 8
  · rw [if_pos hfit]; exact I
  rw [if_neg hfit]
  obtain ⟨I0, In, Ig, If, Ib, Iq, Ih, Im, Ic⟩ := I
  obtain ⟨N1, N2, N3, N4⟩ := id In
  have f1 := If.1
  have h64 : 64 ≤ zSum (fun i => sSp (s i)) 4 := by
    have hd : ∀ n, sSp n = 0 ∨ 64 ≤ sSp n := fun n => by unfold sSp sPad; split <;> omega
    have d0 := hd (s 0)
    have d1 := hd (s 1)
    have d2 := hd (s 2)
    have d3 := hd (s 3)
    simp only [zSum] at hne ⊢
    omega
  have hmd := sSp_m s 4
  have hfe : sFe S + 96 * sN S 14 0 ≤ sN S 1 0 / 4 ∧ sFe S % 8 = 0 ∧ sFe S = (if sN S 14 0 = 0 then sN S 1 0 / 4 else sN S 8 (sN S 14 0 - 1)) := by
    refine ⟨?_, ?_, rfl⟩
    · unfold sFe
      split
      · omega
      · obtain ⟨g1, g2, -⟩ := If.2 (sN S 14 0 - 1) (by omega)
        rw [show sN S 14 0 - 1 + 1 = sN S 14 0 by omega] at g2
        exact g2
    · unfold sFe
      split
      · omega
      · obtain ⟨g1, g2, g3, g4, g5, -⟩ := If.2 (sN S 14 0 - 1) (by omega)
        exact g5
  obtain ⟨fe1, fe2, fe3⟩ := hfe
  generalize hat : sFe S - (32 + zSum (fun i => sSp (s i)) 4) = at'
  have hsum : at' + 32 + zSum (fun i => sSp (s i)) 4 = sFe S := by omega
  have J0 : sI0 (sPaint (zV (zV S 8 (upd (S 8) (sN S 14 0) (nI at'))) 9 (upd (S 9) (sN S 14 0) (nI (sFe S)))) at' (at' + 32) 241) := sI0_paint (sI0_n (S := zV S 8 _) (sI0_n I0 (by omega)) (by omega)) (by decide)
  have Jh : sIh (sPaint (zV (zV S 8 (upd (S 8) (sN S 14 0) (nI at'))) 9 (upd (S 9) (sN S 14 0) (nI (sFe S)))) at' (at' + 32) 241) := sIh_paint (S := zV (zV S 8 _) 9 _) Ih (by decide) (by decide)
  have e8 : ∀ i, sN (sPaint (zV (zV S 8 (upd (S 8) (sN S 14 0) (nI at'))) 9 (upd (S 9) (sN S 14 0) (nI (sFe S)))) at' (at' + 32) 241) 8 i = if i = sN S 14 0 then at' else sN S 8 i := by
    intro i
    show (upd (S 8) (sN S 14 0) (nI at') i).toInt.toNat = _
    unfold upd
    split
    · rw [i_nI (by omega)]; rfl
    · rfl
  have e9 : ∀ i, sN (sPaint (zV (zV S 8 (upd (S 8) (sN S 14 0) (nI at'))) 9 (upd (S 9) (sN S 14 0) (nI (sFe S)))) at' (at' + 32) 241) 9 i = if i = sN S 14 0 then sFe S else sN S 9 i := by
    intro i
    show (upd (S 9) (sN S 14 0) (nI (sFe S)) i).toInt.toNat = _
    unfold upd
    split
    · rw [i_nI (by omega)]; rfl
    · rfl
  have er : ∀ r, r ≠ 4 → r ≠ 8 → r ≠ 9 → sPaint (zV (zV S 8 (upd (S 8) (sN S 14 0) (nI at'))) 9 (upd (S 9) (sN S 14 0) (nI (sFe S)))) at' (at' + 32) 241 r = S r := by
    intro r h4 h8 h9
    unfold sPaint
    rw [zV_ne _ _ h4, zV_ne _ _ h9, zV_ne _ _ h8]
  generalize sPaint (zV (zV S 8 (upd (S 8) (sN S 14 0) (nI at'))) 9 (upd (S 9) (sN S 14 0) (nI (sFe S)))) at' (at' + 32) 241 = S0 at J0 Jh e8 e9 er ⊢
  have eN0 : sN S0 1 0 = sN S 1 0 := by unfold sN; rw [er 1 (by decide) (by decide) (by decide)]
  obtain ⟨k1, k2, k3, k4, k5, k6⟩ := sEntL_k (fr := sN S 14 0) (e := sFe S) (at' := at') hs J0 Jh (by omega) (by omega) (by omega) (by omega) 4 (Nat.le_refl _)
  obtain ⟨-, -, t3, t4⟩ := sEntL_f s (sN S 14 0) (sFe S) (S0, 0, at' + 32) 4
  have k6 := k6 (by omega)
  dsimp only at t3 t4
  generalize sEntL s (sN S 14 0) (sFe S) (S0, 0, at' + 32) 4 = t at k1 k2 k3 k4 k5 k6 t3 t4 ⊢
  obtain ⟨T, many, next⟩ := t
  dsimp only at k1 k2 k3 k4 k5 k6 t3 t4 ⊢
  have eT : ∀ r, r ≠ 4 → r ≠ 8 → r ≠ 9 → r ≠ 11 → r ≠ 12 → r ≠ 13 → T r = S r := fun r a b c d e f => (k3 r a d e f).trans (er r a b c)
  have eF : ∀ r, r ≠ 4 → r ≠ 8 → r ≠ 9 → r ≠ 10 → r ≠ 11 → r ≠ 12 → r ≠ 13 → r ≠ 14 → zV (zV T 14 (fun _ => nI (sN S 14 0 + 1))) 10 (upd (T 10) (sN S 14 0) (nI many)) r = S r := by
    intro r a b c d e f g i
    rw [zV_ne _ _ d, zV_ne _ _ i]
    exact eT r a b c e f g
  generalize hF : zV (zV T 14 (fun _ => nI (sN S 14 0 + 1))) 10 (upd (T 10) (sN S 14 0) (nI many)) = F at eF ⊢
  have q14 : sN F 14 0 = sN S 14 0 + 1 := by
    rw [← hF]
    show (nI (sN S 14 0 + 1)).toInt.toNat = _
    rw [i_nI (by omega)]; rfl
  have q10 : ∀ i, sN F 10 i = if i = sN S 14 0 then many else sN S 10 i := by
    intro i
    rw [← hF]
    show (upd (T 10) (sN S 14 0) (nI many) i).toInt.toNat = _
    unfold upd
    split
    · rw [i_nI (by omega)]; rfl
    · unfold sN; rw [eT 10 (by decide) (by decide) (by decide) (by decide) (by decide) (by decide)]
  have q8 : ∀ i, sN F 8 i = if i = sN S 14 0 then at' else sN S 8 i := by
    intro i
    rw [← e8, ← hF]
    show (T 8 i).toInt.toNat = _
    rw [k3 8 (by decide) (by decide) (by decide) (by decide)]
    rfl
  have q9 : ∀ i, sN F 9 i = if i = sN S 14 0 then sFe S else sN S 9 i := by
    intro i
    rw [← e9, ← hF]
    show (T 9 i).toInt.toNat = _
    rw [k3 9 (by decide) (by decide) (by decide) (by decide)]
    rfl
  have qv : ∀ r i, (r = 11 ∨ r = 12 ∨ r = 13 ∨ r = 4) → sN F r i = sN T r i := by
    intro r i hr
    rw [← hF]
    unfold sN
    rw [zV_ne _ _ (by omega), zV_ne _ _ (by omega)]
  have q : ∀ r i, r ≠ 4 → r ≠ 8 → r ≠ 9 → r ≠ 10 → r ≠ 11 → r ≠ 12 → r ≠ 13 → r ≠ 14 → sN F r i = sN S r i := by
    intro r i a b c d e f g h
    unfold sN
    rw [eF r a b c d e f g h]
  have qN : sN F 1 0 = sN S 1 0 := q 1 0 (by decide) (by decide) (by decide) (by decide) (by decide) (by decide) (by decide) (by decide)
  refine ⟨?_, ?_, ?_, ⟨by rw [q14]; omega, fun f hf => ?_⟩, ?_, ?_, ?_, ?_, ?_⟩
  · rw [← hF]
    refine sI0_n (S := zV T 14 _) (sI0_V k1 fun _ _ => ?_) (by omega)
    rw [i_nI (by omega)]; omega
  · unfold sIn
    rw [qN, q 2 0 (by decide) (by decide) (by decide) (by decide) (by decide) (by decide) (by decide) (by decide)]
    exact ⟨N1, N2, N3, N4⟩
  · unfold sIg
    rw [qN, q 7 0 (by decide) (by decide) (by decide) (by decide) (by decide) (by decide) (by decide) (by decide)]
    refine ⟨Ig.1, fun k hk => ?_⟩
    rw [q 5 k (by decide) (by decide) (by decide) (by decide) (by decide) (by decide) (by decide) (by decide), q 6 k (by decide) (by decide) (by decide) (by decide) (by decide) (by decide) (by decide) (by decide)]
    exact Ig.2 k hk
  · rw [q14] at hf
    unfold sIv
    rw [qN, q8, q9, q8, q10]
    simp only [qv 11 _ (Or.inl rfl), qv 12 _ (Or.inr (Or.inl rfl)), qv 13 _ (Or.inr (Or.inr (Or.inl rfl)))]
    by_cases hq : f = sN S 14 0
    · subst hq
      rw [if_pos rfl, if_pos rfl, if_pos rfl]
      refine ⟨by omega, by omega, by omega, ?_, by omega, fe2, k6, by omega, fun j hj => ?_⟩
      · rw [fe3]
        by_cases z : sN S 14 0 = 0
        · rw [if_pos z, if_pos z]
        · rw [if_neg z, if_neg z, if_neg (by omega)]
      · obtain ⟨w1, w2, w3, w4, w5, w6⟩ := k5 j hj
        exact ⟨w1, w2, w3, w4, by omega, w6⟩
    · rw [if_neg hq, if_neg hq, if_neg hq]
      obtain ⟨g1, g2, g3, g4, g5, g6, g7, g8, g9⟩ := If.2 f (by omega)
      refine ⟨g1, g2, g3, ?_, g5, g6, g7, g8, fun j hj => ?_⟩
      · rw [g4]
        by_cases z : f = 0
        · rw [if_pos z, if_pos z]
        · rw [if_neg z, if_neg z, if_neg (by omega)]
      · obtain ⟨w1, w2, w3⟩ := k4 (4 * f + j) (by omega)
        have d11 : sN S0 11 (4 * f + j) = sN S 11 (4 * f + j) := by unfold sN; rw [er 11 (by decide) (by decide) (by decide)]
        have d12 : sN S0 12 (4 * f + j) = sN S 12 (4 * f + j) := by unfold sN; rw [er 12 (by decide) (by decide) (by decide)]
        have d13 : sN S0 13 (4 * f + j) = sN S 13 (4 * f + j) := by unfold sN; rw [er 13 (by decide) (by decide) (by decide)]
        rw [w1, w2, w3, d11, d12, d13]
        exact g9 j hj
  · unfold sIb
    simp only [qN, q 23 _ (by decide) (by decide) (by decide) (by decide) (by decide) (by decide) (by decide) (by decide), q 19 _ (by decide) (by decide) (by decide) (by decide) (by decide) (by decide) (by decide) (by decide), q 20 _ (by decide) (by decide) (by decide) (by decide) (by decide) (by decide) (by decide) (by decide), q 15 _ (by decide) (by decide) (by decide) (by decide) (by decide) (by decide) (by decide) (by decide), q 16 _ (by decide) (by decide) (by decide) (by decide) (by decide) (by decide) (by decide) (by decide), q 17 _ (by decide) (by decide) (by decide) (by decide) (by decide) (by decide) (by decide) (by decide), q 18 _ (by decide) (by decide) (by decide) (by decide) (by decide) (by decide) (by decide) (by decide)]
    exact Ib
  · unfold sIq
    simp only [q 23 _ (by decide) (by decide) (by decide) (by decide) (by decide) (by decide) (by decide) (by decide), q 24 _ (by decide) (by decide) (by decide) (by decide) (by decide) (by decide) (by decide) (by decide), q 25 _ (by decide) (by decide) (by decide) (by decide) (by decide) (by decide) (by decide) (by decide), q 18 _ (by decide) (by decide) (by decide) (by decide) (by decide) (by decide) (by decide) (by decide)]
    exact Iq
  · intro g
    have eN1 : sN T 1 0 = sN S 1 0 := by unfold sN; rw [eT 1 (by decide) (by decide) (by decide) (by decide) (by decide) (by decide)]
    rw [qv 4 g (Or.inr (Or.inr (Or.inr rfl))), qN, ← eN1]
    exact k2 g
  · intro i
    rw [eF 3 (by decide) (by decide) (by decide) (by decide) (by decide) (by decide) (by decide) (by decide)]
    exact Im i
  · unfold sIc
    simp only [q 23 _ (by decide) (by decide) (by decide) (by decide) (by decide) (by decide) (by decide) (by decide), q 25 _ (by decide) (by decide) (by decide) (by decide) (by decide) (by decide) (by decide) (by decide), q 27 _ (by decide) (by decide) (by decide) (by decide) (by decide) (by decide) (by decide) (by decide)]
    exact Ic
end ZK3
