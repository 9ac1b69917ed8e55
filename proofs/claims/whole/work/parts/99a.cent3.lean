section ZE4
variable {X : zCx} {F : Nat → Option va_E} {o p q : Nat} {S Sx : zS} {D : Nat → Nat → Nat} {W : Nat → Nat → Int32} {K : Nat → Nat → Nat} {h h' : zHp} {cc b0 fr at' by' m rA cap : Nat} {vA : Nat → Nat} {mc : Int32}
theorem zFb_ag (B : zFb X Sx b0 fr at' by' m rA cap vA mc h) (ag : ∀ a e, h.1 a = some e → b0 ≤ a → h'.1 a = some e) : zFb X Sx b0 fr at' by' m rA cap vA mc h' := by
  obtain ⟨B1, B2, B3, B4, B5, B6⟩ := B
  refine ⟨ag _ _ B1 (Nat.le_refl _), ag _ _ B2 (by omega), ?_, B4, fun j hj => ⟨ag _ _ (B5 j hj).1 (by have := (B5 j hj).2; omega), (B5 j hj).2⟩, B6⟩
  rcases B3 with z | ⟨z1, z2, z3⟩
  · exact Or.inl z
  · exact Or.inr ⟨z1, ag _ _ z2 (by omega), z3⟩
theorem zSt_ent (I : sInv S cc) (R : zSt X F o S D W K h p q) (hfr : sN S 14 0 = fr) (hlt : ∀ r i, zvd S K r i → D r i < b0) (hF : ∀ a e, F a = some e → a < b0) (wf : ∀ a e, h.1 a = some e → a < h.2.1) (B : zFb X Sx b0 fr at' by' m rA cap vA mc h) (hm : 1 ≤ m ∧ m ≤ 4) {S' : zS} (hS : ∀ k, zno [8, 9, 10, 11, 12, 13, 14] k → S' k = S k) (e8 : ∀ i, i ≤ fr → sN S' 8 i = if i = fr then at' else sN S 8 i) (e9 : ∀ i, i ≤ fr → sN S' 9 i = if i = fr then at' + by' else sN S 9 i) (e10 : ∀ i, i ≤ fr → sN S' 10 i = if i = fr then m else sN S 10 i) (e14 : sN S' 14 0 = fr + 1) (e11 : ∀ i, i < 4 * fr → S' 11 i = S 11 i) (e12 : ∀ i, i < 4 * fr → S' 12 i = S 12 i) (e13 : ∀ i, i < 4 * fr → S' 13 i = S 13 i) (f11 : ∀ j, j < m → sN S' 11 (4 * fr + j) = sN Sx 11 (4 * fr + j)) (f12 : ∀ j, j < m → sN S' 12 (4 * fr + j) = sN Sx 12 (4 * fr + j)) (f13 : ∀ j, j < m → sN S' 13 (4 * fr + j) = 0) :
    ∃ D' W' K', D' 1 0 = D 1 0 ∧ D' 8 0 = D 8 0 ∧ D' 11 fr = b0 ∧ zSt X F o S' D' W' K' (zPush X h (D 9 0) (D 10 0) (W 9 0 + 1) fr (K 10 0) (zes S D K 9 0) b0) (p + 1) (q + 2000) := by
  obtain ⟨I0, In, Ig, If, -⟩ := id I
  have f1 := If.1
  have A := R.1.2.2 9 0 (Or.inl ⟨rfl, by decide⟩)
  have A2 : fr ≤ K 10 0 := by rw [← hfr]; exact A.2.1
  have A3 : K 10 0 ≤ 1600 := A.2.2
  have hbd := R.2.2.2.2
  obtain ⟨B1, B2, B3, B4, B5, B6⟩ := id B
  have hc : cap = 10 := by rcases B3 with ⟨z, -⟩ | ⟨z, -⟩ <;> omega
  have hrA : rA < h.2.1 := by
    rcases B3 with ⟨z, -⟩ | ⟨-, z, -⟩
    · omega
    · exact wf _ _ z
  have l9 := hlt 9 0 ⟨rfl, by decide⟩
  obtain ⟨d', cap', hdc, w5⟩ := zW_push (X := X) (zSt_W R) wf (r := 9) (i := 0) (n := fr) (cap := K 10 0) (b := b0) (mc := W 9 0 + 1) (g := zes S D K 9 0) (Or.inl ⟨rfl, by decide⟩) (fun c => Or.inl ⟨rfl, c⟩) A2 (fun j hj => zes_none (by rw [← hfr] at hj; exact hj))
  have hcap : fr + 1 ≤ cap' ∧ cap' ≤ 1600 := by
    rcases hdc with ⟨c1, c2, c3, c4⟩ | ⟨c1, c2, c3, c4⟩
    · omega
    · have := zgrow_l (cap := K 10 0) (by omega)
      omega
  have ag : ∀ a e, h.1 a = some e → b0 ≤ a → (zPush X h (D 9 0) (D 10 0) (W 9 0 + 1) fr (K 10 0) (zes S D K 9 0) b0).1 a = some e := fun a e ha hb => by
    unfold zPush
    have := wf a e ha
    split
    · have := hlt 10 0 ⟨rfl, by omega⟩
      rw [zset_ne _ _ (by omega), zset_ne _ _ (by omega)]
      exact ha
    · rw [zset_ne _ _ (by omega), znew_ne _ _ _ (by omega)]
      exact ha
  have v11 : ∀ i, zVa (zVF F S K) (9 + 1) 0 11 i → i < fr := by
    rintro i ((v | ⟨z, -⟩) | ⟨z, -⟩)
    · rw [← hfr]; exact v
    · omega
    · omega
  have v12 : ∀ i, zVa (zVF F S K) (9 + 1) 0 12 i → i < fr := by
    rintro i ((v | ⟨z, -⟩) | ⟨z, -⟩)
    · rw [← hfr]; exact v
    · omega
    · omega
  have v13 : ∀ i, zVa (zVF F S K) (9 + 1) 0 13 i → i < fr := by
    rintro i ((v | ⟨z, -⟩) | ⟨z, -⟩)
    · rw [← hfr]; exact v.1
    · omega
    · omega
  have v14 : ∀ i, zVa (zVF F S K) (9 + 1) 0 14 i → i < 4 * fr := by
    rintro i ((v | ⟨z, -⟩) | ⟨z, -⟩)
    · rw [← hfr]; exact v.1
    · omega
    · omega
  have hold : ∀ r i, zVa (zVF F S K) (9 + 1) 0 r i → u2 D (9 + 1) 0 d' r i < b0 ∨ h.2.1 ≤ u2 D (9 + 1) 0 d' r i := by
    intro r i v
    by_cases c : r = 9 + 1 ∧ i = 0
    · obtain ⟨rfl, rfl⟩ := c
      rw [u2_at]
      rcases hdc with ⟨c1, c2, c3, c4⟩ | ⟨c1, c2, c3, c4⟩
      · left
        rw [c2]
        exact hlt 10 0 ⟨rfl, by omega⟩
      · right
        omega
    · rw [u2_ni c]
      left
      rcases v with (v | ⟨rfl, e, he⟩) | v
      · exact hlt r i v
      · rw [R.2.1.2]
        exact hF i e he
      · exact absurd v c
  have w6 := zW_4 w5 v11 v12 v13 v14 (zFb_ag B ag) hc hold (by have := wf _ _ B2; omega) hrA (fun j hj => wf _ _ (B5 j hj).1)
  have aff : ∀ r, r < 28 → zhk [8, 9, 10, 11, 12, 13, 14] [10, 11, 12, 13, 14] [9, 12] [10, 13] r = false → r = 9 ∨ r = 10 ∨ r = 11 ∨ r = 12 ∨ r = 13 ∨ r = 14 := by decide
  obtain ⟨D', eD⟩ : ∃ D', D' = zD4 (u2 D (9 + 1) 0 d') fr b0 rA vA := ⟨_, rfl⟩
  obtain ⟨W', eW⟩ : ∃ W', W' = u2 (u2 W 9 0 (W 9 0 + 1)) 12 fr mc := ⟨_, rfl⟩
  obtain ⟨K', eK⟩ : ∃ K', K' = u2 (u2 K 10 0 cap') 13 fr cap := ⟨_, rfl⟩
  have d11 : D' 11 fr = b0 := by rw [eD]; exact if_pos rfl
  have d12 : D' 12 fr = b0 + 1 := by rw [eD]; exact if_pos rfl
  have d13 : D' 13 fr = rA := by rw [eD]; exact if_pos rfl
  have d14 : ∀ j, D' 14 (4 * fr + j) = vA j := fun j => by
    rw [eD]
    show (if 4 * fr ≤ 4 * fr + j then vA (4 * fr + j - 4 * fr) else _) = _
    rw [if_pos (by omega), show 4 * fr + j - 4 * fr = j by omega]
  have D10 : D' 10 0 = d' := by rw [eD]; rfl
  have o11 : ∀ i, i < fr → D' 11 i = D 11 i := fun i hi => by rw [eD]; exact if_neg (by omega)
  have o12 : ∀ i, i < fr → D' 12 i = D 12 i := fun i hi => by rw [eD]; exact if_neg (by omega)
  have o13 : ∀ i, i < fr → D' 13 i = D 13 i := fun i hi => by rw [eD]; exact if_neg (by omega)
  have o14 : ∀ i, i < 4 * fr → D' 14 i = D 14 i := fun i hi => by rw [eD]; exact if_neg (by omega)
  have W9 : W' 9 0 = W 9 0 + 1 := by rw [eW]; rfl
  have W12 : W' 12 fr = mc := by rw [eW]; exact u2_at _ _ _ _
  have oW : ∀ i, i < fr → W' 12 i = W 12 i := fun i hi => by
    rw [eW, u2_ni (by omega)]
    rfl
  have K10 : K' 10 0 = cap' := by rw [eK]; rfl
  have K13 : K' 13 fr = cap := by rw [eK]; exact u2_at _ _ _ _
  have oK : ∀ i, i < fr → K' 13 i = K 13 i := fun i hi => by
    rw [eK, u2_ni (by omega)]
    rfl
  have K24 : K' 24 0 = K 24 0 := by rw [eK]; rfl
  have K50 : K' 50 0 = K 50 0 := by rw [eK]; rfl
  have K51 : K' 51 = K 51 := by rw [eK]; rfl
  have hD : ∀ k, zno [10, 11, 12, 13, 14] k → D' k = D k := fun k ⟨a1, a2, a3, a4, a5, _⟩ => by
    rw [eD]
    simp only [zD4, zU, u2, a1, a2, a3, a4, a5]
  rw [← eD] at w6
  refine ⟨D', W', K', hD 1 ⟨rfl, rfl, rfl, rfl, rfl, trivial⟩ ▸ rfl, hD 8 ⟨rfl, rfl, rfl, rfl, rfl, trivial⟩ ▸ rfl, d11, zSt_mk [8, 9, 10, 11, 12, 13, 14] [10, 11, 12, 13, 14] [9, 12] [10, 13] R w6 hS hD (fun k ⟨a, b, _⟩ => by rw [eW]; simp only [u2, a, b]) (fun k ⟨a, b, _⟩ => by rw [eK]; simp only [u2, a, b]) ?_ (fun r i h28 hc9 hv => ?_) (fun r i h28 hc9 hl => ?_) rfl ?_ ?_⟩
  · intro r i hr v
    refine ⟨Or.inl (Or.inl v), ?_⟩
    rw [(z4_old (m := m) (b0 := b0) (rA := rA) (vA := vA) (D := u2 D (9 + 1) 0 d') v11 v12 v13 v14 (Or.inl v)).2.1, u2_nr (fun z => by rw [z] at hr; exact absurd hr (by decide)), u2_nr (fun z => by rw [z] at hr; exact absurd hr (by decide))]
  · rcases aff r h28 hc9 with rfl | rfl | rfl | rfl | rfl | rfl
    · obtain ⟨rfl, -⟩ := id hv
      refine ⟨Or.inl (Or.inl (Or.inl ⟨rfl, by decide⟩)), ?_⟩
      show zLc (W 9 0 + 1) d' (fr + 1) = zLc (W' 9 0) (D' 10 0) (sN S' 14 0)
      rw [W9, D10, e14]
    · obtain ⟨rfl, -⟩ := id hv
      refine ⟨Or.inl (Or.inr ⟨rfl, rfl⟩), ?_⟩
      show zOb X cap' (va_up (zes S D K 9 0) fr (some b0)) = zOb X (K' 10 0) (zes S' D' K' 9 0)
      rw [K10]
      refine congrArg (zOb X cap') (zes_push (S := S) (D := D) (K := K) (r := 9) (i := 0) (S' := S') (D' := D') (K' := K') hfr e14 (fun j hj => ?_) ?_)
      · exact o11 j hj
      · exact d11
    · have hv' : i < sN S' 14 0 := hv
      by_cases c : i < fr
      · refine ⟨Or.inl (Or.inl (Or.inl (show i < sN S 14 0 by omega))), ?_⟩
        show (if i = fr then _ else zce X S D W K 11 i) = (Sum.inr (2, [.int (nI (sN S' 8 i)), .int (nI (sN S' 9 i - sN S' 8 i)), .ref (D' 12 i)]) : va_E)
        rw [if_neg (by omega), e8 i (by omega), e9 i (by omega), if_neg (by omega), if_neg (by omega), o12 i c]
        rfl
      · have e : i = fr := by omega
        rw [e]
        refine ⟨Or.inr (Or.inl ⟨rfl, rfl⟩), ?_⟩
        show (if fr = fr then _ else zce X S D W K 11 fr) = (Sum.inr (2, [.int (nI (sN S' 8 fr)), .int (nI (sN S' 9 fr - sN S' 8 fr)), .ref (D' 12 fr)]) : va_E)
        rw [if_pos rfl, e8 fr (Nat.le_refl _), e9 fr (Nat.le_refl _), if_pos rfl, if_pos rfl, show at' + by' - at' = by' by omega, d12]
    · have hv' : i < sN S' 14 0 := hv
      by_cases c : i < fr
      · refine ⟨Or.inl (Or.inl (Or.inl (show i < sN S 14 0 by omega))), ?_⟩
        show (if i = fr then _ else zce X S D W K 12 i) = zLc (W' 12 i) (D' 13 i) (sN S' 10 i)
        rw [if_neg (by omega), e10 i (by omega), if_neg (by omega), o13 i c, oW i c]
        rfl
      · have e : i = fr := by omega
        rw [e]
        refine ⟨Or.inr (Or.inr (Or.inl ⟨rfl, rfl⟩)), ?_⟩
        show (if fr = fr then _ else zce X S D W K 12 fr) = zLc (W' 12 fr) (D' 13 fr) (sN S' 10 fr)
        rw [if_pos rfl, e10 fr (Nat.le_refl _), if_pos rfl, d13, W12]
    · have hv' : i < sN S' 14 0 ∧ 0 < K' 13 i := hv
      by_cases c : i < fr
      · have hk : 0 < K 13 i := by rw [← oK i c]; exact hv'.2
        refine ⟨Or.inl (Or.inl (Or.inl (show i < sN S 14 0 ∧ 0 < K 13 i by omega))), ?_⟩
        show (if i = fr then _ else zce X S D W K 13 i) = zOb X (K' 13 i) (zes S' D' K' 12 i)
        rw [if_neg (by omega), oK i c]
        show zOb X (K 13 i) (zes S D K 12 i) = _
        refine congrArg (zOb X (K 13 i)) (funext fun j => ?_)
        show (if j < sN S 10 i then some (D 14 (4 * i + j)) else none) = if j < sN S' 10 i then some (D' 14 (4 * i + j)) else none
        rw [e10 i (by omega), if_neg (show ¬ i = fr by omega)]
        have h4 := (If.2 i (by omega)).2.2.2.2.2.2.2.1
        by_cases c2 : j < sN S 10 i
        · rw [if_pos c2, if_pos c2, o14 _ (by omega)]
        · rw [if_neg c2, if_neg c2]
      · have e : i = fr := by omega
        rw [e]
        refine ⟨Or.inr (Or.inr (Or.inr (Or.inl ⟨rfl, rfl⟩))), ?_⟩
        show (if fr = fr then _ else zce X S D W K 13 fr) = zOb X (K' 13 fr) (zes S' D' K' 12 fr)
        rw [if_pos rfl, K13]
        refine congrArg (zOb X cap) (funext fun j => ?_)
        show (if j < m then some (vA j) else none) = if j < sN S' 10 fr then some (D' 14 (4 * fr + j)) else none
        rw [e10 fr (Nat.le_refl _), if_pos rfl, d14]
    · have hv' : i < 4 * sN S' 14 0 ∧ i % 4 < sN S' 10 (i / 4) := hv
      by_cases c : i < 4 * fr
      · have h10 := e10 (i / 4) (by omega)
        rw [if_neg (by omega)] at h10
        refine ⟨Or.inl (Or.inl (Or.inl (show i < 4 * sN S 14 0 ∧ i % 4 < sN S 10 (i / 4) by omega))), ?_⟩
        show (if 4 * fr ≤ i then _ else zce X S D W K 14 i) = (Sum.inr (10, zRgF 2 (nI i) (sN S' 11 i) (sN S' 12 i) 0 0 [.int (nI (1 - sN S' 13 i))]) : va_E)
        rw [if_neg (by omega)]
        have g1 : sN S' 11 i = sN S 11 i := by unfold sN; rw [e11 i c]
        have g2 : sN S' 12 i = sN S 12 i := by unfold sN; rw [e12 i c]
        have g3 : sN S' 13 i = sN S 13 i := by unfold sN; rw [e13 i c]
        rw [g1, g2, g3]
        rfl
      · have h10 := e10 fr (Nat.le_refl _)
        rw [if_pos rfl] at h10
        have e9 : i / 4 = fr := by omega
        rw [e9, h10] at hv'
        obtain ⟨j, rfl⟩ : ∃ j, i = 4 * fr + j := ⟨i - 4 * fr, by omega⟩
        have hj : j < m := by omega
        refine ⟨Or.inr (Or.inr (Or.inr (Or.inr ⟨rfl, by omega, by omega⟩))), ?_⟩
        show (if 4 * fr ≤ 4 * fr + j then _ else zce X S D W K 14 (4 * fr + j)) = (Sum.inr (10, zRgF 2 (nI (4 * fr + j)) (sN S' 11 (4 * fr + j)) (sN S' 12 (4 * fr + j)) 0 0 [.int (nI (1 - sN S' 13 (4 * fr + j)))]) : va_E)
        rw [if_pos (by omega), f11 j hj, f12 j hj, f13 j hj]
        rw [show 4 * fr + j - 4 * fr = j by omega]
        rfl
  · rcases aff r h28 hc9 with rfl | rfl | rfl | rfl | rfl | rfl
    · obtain ⟨rfl, -⟩ : i = 0 ∧ True := by rcases hl with ⟨z, -⟩ | ⟨z, -⟩ <;> first | exact ⟨z, trivial⟩ | omega
      have K10' : K' (9 + 1) 0 = cap' := K10
      rw [K10']
      exact ⟨fun z => by omega, by show sN S' 14 0 ≤ cap'; omega, hcap.2⟩
    · rcases hl with ⟨-, z⟩ | ⟨z, -⟩ <;> omega
    · rcases hl with ⟨-, z⟩ | ⟨z, -⟩ <;> omega
    · have hi : i < fr + 1 := by
        rcases hl with ⟨-, z⟩ | ⟨-, z⟩
        · omega
        · rw [e14] at z
          exact z
      by_cases c : i < fr
      · have := R.1.2.2 12 i (Or.inr ⟨rfl, by omega⟩)
        have oK' : K' (12 + 1) i = K (12 + 1) i := oK i c
        have o13' : D' (12 + 1) i = D (12 + 1) i := o13 i c
        rw [oK', o13']
        refine ⟨this.1, ?_, this.2.2⟩
        show sN S' 10 i ≤ K 13 i
        rw [e10 i (by omega), if_neg (by omega)]
        exact this.2.1
      · have e : i = fr := by omega
        rw [e]
        have K13' : K' (12 + 1) fr = cap := K13
        rw [K13']
        refine ⟨fun z => by omega, ?_, by omega⟩
        show sN S' 10 fr ≤ cap
        rw [e10 fr (Nat.le_refl _), if_pos rfl]
        omega
    · rcases hl with ⟨-, z⟩ | ⟨z, -⟩ <;> omega
    · rcases hl with ⟨-, z⟩ | ⟨z, -⟩ <;> omega
  · rw [K50, K51]
    have : sN S' 23 0 = sN S 23 0 := by unfold sN; rw [hS 23 ⟨rfl, rfl, rfl, rfl, rfl, rfl, rfl, trivial⟩]
    rw [this]
    exact R.2.2.1
  · rw [K24]
    rcases hdc with ⟨c1, c2, c3, c4⟩ | ⟨c1, c2, c3, c4⟩
    · exact ⟨Nat.le_trans (Nat.le_of_eq (congrArg Prod.fst c4)) (by show h.2.1 ≤ _; omega), Nat.le_trans (Nat.le_of_eq (congrArg Prod.snd c4)) (by show h.2.2 ≤ _; omega)⟩
    · exact ⟨Nat.le_trans (Nat.le_of_eq (congrArg Prod.fst c4)) (by show h.2.1 + 1 ≤ _; omega), Nat.le_trans (Nat.le_of_eq (congrArg Prod.snd c4)) (by show h.2.2 + zgrow (K 10 0) ≤ _; omega)⟩
end ZE4
