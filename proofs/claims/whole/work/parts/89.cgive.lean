section ZGV
variable {X : zCx} {F : Nat → Option va_E} {o p q : Nat} {S : zS} {D : Nat → Nat → Nat} {W : Nat → Nat → Int32} {K : Nat → Nat → Nat} {h : zHp} {cc : Nat}
def sGiv0 (S : zS) (kd : Int32) (n : Nat) (site : Int32) (a : Nat) : zS :=
  zV (zV (zV (zV (zV (zV (zV (zV (zV S 23 (fun _ => nI (sN S 23 0 + 1))) 19 (upd (S 19) (sN S 23 0) (nI a))) 20 (upd (S 20) (sN S 23 0) (nI (sCh n)))) 15 (upd (S 15) (sN S 23 0) (nI (a + sRed n)))) 16 (upd (S 16) (sN S 23 0) (nI n))) 17 (upd (S 17) (sN S 23 0) kd)) 18 (upd (S 18) (sN S 23 0) 0)) 21 (upd (S 21) (sN S 23 0) site)) 22 (upd (S 22) (sN S 23 0) 0)
theorem sN_upd {f : Nat → Int32} {k i x : Nat} (hx : x < 2147483648) : (upd f k (nI x) i).toInt.toNat = if i = k then x else (f i).toInt.toNat := by
  by_cases c : i = k
  · rw [c, upd_at, if_pos rfl, n_toNat hx]
  · rw [upd_ne c, if_neg c]
theorem zow_new {S S' : zS} {c a m i : Nat} (I : sInv S c) (ha : a = sN S 1 0 / 4 + 16 * i) (hr : zRn (zow S) ((sN S 1 0 - sN S 1 0 / 4) / 16) m i) (e1 : sN S' 1 0 = sN S 1 0) (e23 : sN S' 23 0 = sN S 23 0 + 1) (e18 : ∀ j, sN S' 18 j = if j = sN S 23 0 then 0 else sN S 18 j) (e19 : ∀ j, sN S' 19 j = if j = sN S 23 0 then a else sN S 19 j) (e20 : ∀ j, sN S' 20 j = if j = sN S 23 0 then 16 * m else sN S 20 j) (u : Nat) : zow S' u = if i ≤ u ∧ u < i + m then some (sN S 23 0) else zow S u := by
  unfold zow
  rw [e23]
  show (match zFst _ (sN S 23 0) with | some k => some k | none => zif _ (some (sN S 23 0)) none) = _
  have e : zFst (fun k => sN S' 18 k ≠ 2 ∧ sN S' 19 k ≤ sN S' 1 0 / 4 + 16 * u ∧ sN S' 1 0 / 4 + 16 * u < sN S' 19 k + sN S' 20 k) (sN S 23 0) = zow S u := zFst_c (fun j hj => by rw [e18, e19, e20, e1, if_neg (by omega), if_neg (by omega), if_neg (by omega)])
  rw [e]
  by_cases c : i ≤ u ∧ u < i + m
  · rw [if_pos c, hr.2 u c.1 c.2]
    show zif _ _ _ = _
    rw [zif_pos]
    dsimp only
    rw [e18, e19, e20, e1, if_pos rfl, if_pos rfl, if_pos rfl]
    omega
  · rw [if_neg c]
    cases hz : zow S u with
    | some k =>
      show some k = _
      rw [← hz]
      rfl
    | none =>
      show zif _ _ _ = _
      rw [zif_neg]
      · exact hz.symm
      · dsimp only
        rw [e18, e19, e20, e1, if_pos rfl, if_pos rfl, if_pos rfl]
        omega
theorem zSt_giv (I : sInv S cc) (R : zSt X F o S D W K h p q) (wf : ∀ a e, h.1 a = some e → a < h.2.1) (hnb : sN S 23 0 < 512) (kd site : Int32) (n m i : Nat) (hn : n ≤ sN S 1 0) (hm : sCh n = 16 * m) (hr : zRn (zow S) ((sN S 1 0 - sN S 1 0 / 4) / 16) m i) :
    ∃ D' W' K', D' 18 (sN S 23 0) = h.2.1 ∧ (∀ k, k ≠ sN S 23 0 → D' 18 k = D 18 k) ∧ D' 1 0 = D 1 0 ∧ D' 15 0 = D 15 0 ∧ zSt X F o (sGiv0 S kd n site (sN S 1 0 / 4 + 16 * i)) D' W' K' (zset (zset (zPush X (znew h (.inr (1, zRgF 3 (nI (sN S 23 0)) (sN S 1 0 / 4 + 16 * i + sRed n) n site 0 [.int kd, .int (nI (sN S 1 0 / 4 + 16 * i)), .int (nI (sCh n)), .int 0, .int 0, .int 0])) 13) (D 16 0) (D 17 0) (W 16 0 + 1) (sN S 23 0) (K 17 0) (zes S D K 16 0) h.2.1) (D 21 0) (zBk X ((sN S 1 0 - sN S 1 0 / 4) / 16) (zOw (fun u => (zow S u).map (D 18)) i m (some h.2.1)))) (D 15 0) (zHc S D (sLive S (sN S 23 0) + 1) (sLiveB S (sN S 23 0) + sCh n) (sHB S))) (p + 2) (q + 2000) := by
  have I9 := id I
  obtain ⟨I0, In, Ig, If, Ib, Iq, Ih, Im, c1, c2, c3, c4⟩ := id I
  have N2 := In.2.1
  have hch := sCh_b n
  have hrd : sRed n ≤ 128 := by unfold sRed; split <;> (try split) <;> (try split) <;> omega
  have A := R.1.2.2 16 0 (Or.inl ⟨rfl, by decide⟩)
  have hb := R.2.2.2.2
  obtain ⟨a, ea⟩ : ∃ a, a = sN S 1 0 / 4 + 16 * i := ⟨_, rfl⟩
  rw [← ea]
  have ha : a ≤ 8192 := by have := hr.1; omega
  obtain ⟨nb, en⟩ : ∃ nb, nb = sN S 23 0 := ⟨_, rfl⟩
  obtain ⟨S', eS⟩ : ∃ S', S' = sGiv0 S kd n site a := ⟨_, rfl⟩
  have A2 : nb ≤ K 17 0 := by rw [en]; exact A.2.1
  have A3 : K 17 0 ≤ 1600 := A.2.2
  have e23 : sN S' 23 0 = nb + 1 := by
    rw [eS, en]
    exact n_toNat (by omega)
  have e1 : sN S' 1 0 = sN S 1 0 := by rw [eS]; rfl
  have e15 : ∀ j, sN S' 15 j = if j = nb then a + sRed n else sN S 15 j := fun j => by
    rw [eS, en]
    exact sN_upd (by omega)
  have e16 : ∀ j, sN S' 16 j = if j = nb then n else sN S 16 j := fun j => by
    rw [eS, en]
    exact sN_upd (by omega)
  have e19 : ∀ j, sN S' 19 j = if j = nb then a else sN S 19 j := fun j => by
    rw [eS, en]
    exact sN_upd (by omega)
  have e20 : ∀ j, sN S' 20 j = if j = nb then sCh n else sN S 20 j := fun j => by
    rw [eS, en]
    exact sN_upd (by omega)
  have e18 : ∀ j, sN S' 18 j = if j = nb then 0 else sN S 18 j := fun j => by
    rw [eS, en]
    exact sN_upd (x := 0) (by omega)
  have u17 : S' 17 = upd (S 17) nb kd := by rw [eS, en]; rfl
  have u21 : S' 21 = upd (S 21) nb site := by rw [eS, en]; rfl
  have u22 : S' 22 = upd (S 22) nb 0 := by rw [eS, en]; rfl
  have hS : ∀ k, zno [15, 16, 17, 18, 19, 20, 21, 22, 23] k → S' k = S k := fun k ⟨a1, a2, a3, a4, a5, a6, a7, a8, a9, _⟩ => by
    rw [eS]
    simp only [sGiv0, zV, a1, a2, a3, a4, a5, a6, a7, a8, a9]
  have s24 : S' 24 = S 24 := hS 24 ⟨rfl, rfl, rfl, rfl, rfl, rfl, rfl, rfl, rfl, trivial⟩
  have s25 : S' 25 = S 25 := hS 25 ⟨rfl, rfl, rfl, rfl, rfl, rfl, rfl, rfl, rfl, trivial⟩
  have s2 : S' 2 = S 2 := hS 2 ⟨rfl, rfl, rfl, rfl, rfl, rfl, rfl, rfl, rfl, trivial⟩
  have a24 : ∀ j, sN S' 24 j = sN S 24 j := fun j => by unfold sN; rw [s24]
  have a25 : sN S' 25 0 = sN S 25 0 := by unfold sN; rw [s25]
  have a2 : sN S' 2 0 = sN S 2 0 := by unfold sN; rw [s2]
  rw [← eS]
  have hlive : sLive S' (nb + 1) = sLive S nb + 1 := by
    show zSum (fun b => if sN S' 18 b = 0 then 1 else 0) nb + (if sN S' 18 nb = 0 then 1 else 0) = _
    rw [if_pos (by rw [e18, if_pos rfl])]
    refine congrArg (· + 1) (zSum_c (fun j hj => ?_))
    show (if sN S' 18 j = 0 then 1 else 0) = if sN S 18 j = 0 then 1 else 0
    have : sN S' 18 j = sN S 18 j := by rw [e18, if_neg (by omega)]
    rw [this]
  have hliveB : sLiveB S' (nb + 1) = sLiveB S nb + sCh n := by
    show zSum (fun b => if sN S' 18 b = 0 then sN S' 20 b else 0) nb + (if sN S' 18 nb = 0 then sN S' 20 nb else 0) = _
    rw [if_pos (by rw [e18, if_pos rfl]), e20, if_pos rfl]
    refine congrArg (· + sCh n) (zSum_c (fun j hj => ?_))
    show (if sN S' 18 j = 0 then sN S' 20 j else 0) = if sN S 18 j = 0 then sN S 20 j else 0
    have : sN S' 18 j = sN S 18 j := by rw [e18, if_neg (by omega)]
    have e9 : sN S' 20 j = sN S 20 j := by rw [e20, if_neg (by omega)]
    rw [this, e9]
  have hHB : sHB S' = sHB S := by
    unfold sHB
    rw [a25]
    refine zSum_c (fun j hj => ?_)
    have := (Iq.1 j hj).1
    rw [a24, e20, if_neg (by omega)]
  have hw := zow_new (S' := S') I9 ea hr e1 (by rw [e23, en]) (by rw [← en]; exact e18) (by rw [← en]; exact e19) (by rw [← en, ← hm]; exact e20)
  rw [← en] at hw hnb ⊢
  obtain ⟨d', cap', hdc, w2⟩ := zW_push (X := X) (zW_new (zSt_W R) wf 18 nb (.inr (1, zRgF 3 (nI nb) (a + sRed n) n site 0 [.int kd, .int (nI a), .int (nI (sCh n)), .int 0, .int 0, .int 0])) 13) (zwf_new wf) (r := 16) (i := 0) (n := nb) (cap := K 17 0) (b := h.2.1) (mc := W 16 0 + 1) (g := zes S D K 16 0) (Or.inl (Or.inl ⟨rfl, by decide⟩)) (fun c => Or.inl (Or.inl ⟨rfl, c⟩)) A2 (fun j hj => zes_none (by rw [en] at hj; exact hj))
  have w3 := zW_put w2 (r := 21) (i := 0) (Or.inl (Or.inl (Or.inl ⟨rfl, by decide⟩))) (zBk X ((sN S 1 0 - sN S 1 0 / 4) / 16) (zOw (fun u => (zow S u).map (D 18)) i m (some h.2.1)))
  have w4 := zW_put w3 (r := 15) (i := 0) (Or.inl (Or.inl (Or.inl ⟨rfl, by decide⟩))) (zHc S D (sLive S nb + 1) (sLiveB S nb + sCh n) (sHB S))
  have hcap : nb + 1 ≤ cap' ∧ cap' ≤ 1600 := by
    rcases hdc with ⟨c1, c2, c3, c4⟩ | ⟨c1, c2, c3, c4⟩
    · omega
    · have := zgrow_l (cap := K 17 0) (by omega)
      omega
  obtain ⟨D', eD⟩ : ∃ D', D' = u2 (u2 D 18 nb h.2.1) 17 0 d' := ⟨_, rfl⟩
  obtain ⟨K', eK⟩ : ∃ K', K' = u2 K 17 0 cap' := ⟨_, rfl⟩
  obtain ⟨W', eW⟩ : ∃ W', W' = u2 (u2 (u2 W 16 0 (W 16 0 + 1)) 100 nb 0) 101 nb 0 := ⟨_, rfl⟩
  have d18n : D' 18 nb = h.2.1 := by rw [eD]; exact u2_at D 18 nb h.2.1
  have d18 : ∀ k, k ≠ nb → D' 18 k = D 18 k := fun k hk => by
    rw [eD]
    show u2 D 18 nb h.2.1 18 k = D 18 k
    exact u2_ni (by omega)
  have hD : ∀ k, zno [17, 18] k → D' k = D k := fun k ⟨a, b, _⟩ => by rw [eD]; simp only [u2, a, b]
  have w100n : W' 100 nb = 0 := by
    rw [eW]
    show u2 _ 100 nb 0 100 nb = 0
    exact u2_at _ _ _ _
  have w101n : W' 101 nb = 0 := by
    rw [eW]
    exact u2_at _ _ _ _
  have w100 : ∀ k, k ≠ nb → W' 100 k = W 100 k := fun k hk => by
    rw [eW]
    show u2 (u2 W 16 0 (W 16 0 + 1)) 100 nb 0 100 k = _
    rw [u2_ni (by omega)]
    rfl
  have w101 : ∀ k, k ≠ nb → W' 101 k = W 101 k := fun k hk => by
    rw [eW, u2_ni (by omega)]
    rfl
  have aff : ∀ r, r < 28 → zhk [15, 16, 17, 18, 19, 20, 21, 22, 23] [17, 18] [16, 100, 101] [17] r = false → r = 15 ∨ r = 16 ∨ r = 17 ∨ r = 18 ∨ r = 20 ∨ r = 21 ∨ r = 24 := by decide
  subst eD
  refine ⟨_, W', K', d18n, d18, rfl, rfl, zSt_mk [15, 16, 17, 18, 19, 20, 21, 22, 23] [17, 18] [16, 100, 101] [17] R w4 hS hD (fun k ⟨a, b, c, _⟩ => by rw [eW]; simp only [u2, a, b, c]) (fun k ⟨a, _⟩ => by rw [eK]; simp only [u2, a]) (zK1_u rfl (zK1_u rfl (zK1_u rfl (zK1_u rfl (zK1_u rfl (zK1_a (zK1_a zK1_r))))))) (fun r j h28 hc hv => ?_) (fun r j h28 hc hl => ?_) rfl ?_ ?_⟩
  · rcases aff r h28 hc with rfl | rfl | rfl | rfl | rfl | rfl | rfl
    · obtain ⟨rfl, -⟩ := id hv
      refine ⟨Or.inl (Or.inl (Or.inl ⟨rfl, by decide⟩)), ?_⟩
      rw [u2_at]
      show zHc S D (sLive S nb + 1) (sLiveB S nb + sCh n) (sHB S) = zHc S' (u2 (u2 D 18 nb h.2.1) 17 0 d') (sLive S' (sN S' 23 0)) (sLiveB S' (sN S' 23 0)) (sHB S')
      rw [e23, hlive, hliveB, hHB]
      unfold zHc
      rw [a2]
      rfl
    · obtain ⟨rfl, -⟩ := id hv
      refine ⟨Or.inl (Or.inl (Or.inl ⟨rfl, by decide⟩)), ?_⟩
      show zLc (W 16 0 + 1) d' (nb + 1) = zLc (W' 16 0) ((u2 (u2 D 18 nb h.2.1) 17 0 d') 17 0) (sN S' 23 0)
      rw [e23, eW]
      rfl
    · obtain ⟨rfl, -⟩ := id hv
      refine ⟨Or.inr ⟨rfl, rfl⟩, ?_⟩
      show zOb X cap' (va_up (zes S D K 16 0) nb (some h.2.1)) = zOb X (K' 17 0) (zes S' (u2 (u2 D 18 nb h.2.1) 17 0 d') K' 16 0)
      rw [show K' 17 0 = cap' by rw [eK]; rfl]
      refine congrArg (zOb X cap') (zes_push (S := S) (D := D) (K := K) (r := 16) (i := 0) (S' := S') (D' := (u2 (u2 D 18 nb h.2.1) 17 0 d')) (K' := K') en.symm e23 (fun j hj => ?_) ?_)
      · show (u2 (u2 D 18 nb h.2.1) 17 0 d') 18 j = D 18 j
        exact d18 j (by omega)
      · exact d18n
    · have hv' : j < sN S' 23 0 := hv
      rw [e23] at hv'
      show zVa (zVa (zVF F S K) 18 nb) (16 + 1) 0 18 j ∧ u2 _ 18 nb _ 18 j = (Sum.inr (1, zRgF 3 (nI j) (sN S' 15 j) (sN S' 16 j) (S' 21 j) (S' 22 j) [.int (S' 17 j), .int (nI (sN S' 19 j)), .int (nI (sN S' 20 j)), .int (nI (sN S' 18 j)), .int (W' 100 j), .int (W' 101 j)]) : va_E)
      rw [e15, e16, e18, e19, e20, u17, u21, u22]
      by_cases c : j = nb
      · subst c
        refine ⟨Or.inl (Or.inr ⟨rfl, rfl⟩), ?_⟩
        rw [u2_at, if_pos rfl, if_pos rfl, if_pos rfl, if_pos rfl, if_pos rfl, upd_at, upd_at, upd_at, w100n, w101n]
        rfl
      · have hv3 : j < sN S 23 0 := by omega
        refine ⟨Or.inl (Or.inl (Or.inl hv3)), ?_⟩
        rw [u2_ni (by omega), if_neg c, if_neg c, if_neg c, if_neg c, if_neg c, upd_ne c, upd_ne c, upd_ne c, w100 j c, w101 j c]
        rfl
    · obtain ⟨rfl, hv2⟩ := id hv
      have hv3 : 0 < K 20 0 := by
        have e9 : K' 20 0 = K 20 0 := by rw [eK]; rfl
        rw [e9] at hv2
        exact hv2
      refine ⟨Or.inl (Or.inl (Or.inl ⟨rfl, hv3⟩)), ?_⟩
      show zOb X (K 20 0) (zes S D K 19 0) = zOb X (K' 20 0) (zes S' (u2 (u2 D 18 nb h.2.1) 17 0 d') K' 19 0)
      rw [show K' 20 0 = K 20 0 by rw [eK]; rfl]
      refine congrArg (zOb X (K 20 0)) (funext fun j => ?_)
      show (if j < sN S 25 0 then some (D 18 (sN S 24 j)) else none) = if j < sN S' 25 0 then some ((u2 (u2 D 18 nb h.2.1) 17 0 d') 18 (sN S' 24 j)) else none
      rw [a25, a24]
      by_cases c : j < sN S 25 0
      · have := (Iq.1 j c).1
        rw [if_pos c, if_pos c, d18 _ (by omega)]
      · rw [if_neg c, if_neg c]
    · obtain ⟨rfl, -⟩ := id hv
      refine ⟨Or.inl (Or.inl (Or.inl ⟨rfl, by decide⟩)), ?_⟩
      show zBk X ((sN S 1 0 - sN S 1 0 / 4) / 16) (zOw (fun u => (zow S u).map (D 18)) i m (some h.2.1)) = zBk X ((sN S' 1 0 - sN S' 1 0 / 4) / 16) (fun u => (zow S' u).map ((u2 (u2 D 18 nb h.2.1) 17 0 d') 18))
      rw [e1]
      refine congrArg (zBk X ((sN S 1 0 - sN S 1 0 / 4) / 16)) (funext fun u => ?_)
      rw [hw]
      unfold zOw
      by_cases c : i ≤ u ∧ u < i + m
      · rw [if_pos c, if_pos c]
        show some h.2.1 = some ((u2 (u2 D 18 nb h.2.1) 17 0 d') 18 nb)
        rw [d18n]
      · rw [if_neg c, if_neg c]
        dsimp only
        cases hz : zow S u with
        | none => rfl
        | some k =>
          have := (zow_some I9 hz).1
          show some (D 18 k) = some ((u2 (u2 D 18 nb h.2.1) 17 0 d') 18 k)
          rw [d18 k (by omega)]
    · obtain ⟨rfl, hv2⟩ := id hv
      have k24 : K' 24 0 = K 24 0 := by rw [eK]; rfl
      have k50 : K' 50 0 = K 50 0 := by rw [eK]; rfl
      have k51 : K' 51 = K 51 := by rw [eK]; rfl
      rw [k24] at hv2
      refine ⟨Or.inl (Or.inl (Or.inl ⟨rfl, hv2⟩)), ?_⟩
      show zOb X (K 24 0) (zes S D K 23 0) = zOb X (K' 24 0) (zes S' (u2 (u2 D 18 nb h.2.1) 17 0 d') K' 23 0)
      rw [k24]
      refine congrArg (zOb X (K 24 0)) (funext fun j => ?_)
      show (if j < K 50 0 then some (D 18 (K 51 j)) else none) = if j < K' 50 0 then some ((u2 (u2 D 18 nb h.2.1) 17 0 d') 18 (K' 51 j)) else none
      rw [k50, k51]
      by_cases c : j < K 50 0
      · have := R.2.2.1 j c
        rw [if_pos c, if_pos c, d18 _ (by omega)]
      · rw [if_neg c, if_neg c]
  · rcases aff r h28 hc with rfl | rfl | rfl | rfl | rfl | rfl | rfl
    · rcases hl with ⟨-, z⟩ | ⟨z, -⟩ <;> omega
    · obtain ⟨rfl, -⟩ : j = 0 ∧ True := by rcases hl with ⟨z, -⟩ | ⟨z, -⟩ <;> first | exact ⟨z, trivial⟩ | omega
      have e9 : K' (16 + 1) 0 = cap' := by rw [eK]; rfl
      rw [e9]
      exact ⟨fun z => by omega, by show sN S' 23 0 ≤ cap'; omega, hcap.2⟩
    · rcases hl with ⟨-, z⟩ | ⟨z, -⟩ <;> omega
    · rcases hl with ⟨-, z⟩ | ⟨z, -⟩ <;> omega
    · rcases hl with ⟨-, z⟩ | ⟨z, -⟩ <;> omega
    · rcases hl with ⟨-, z⟩ | ⟨z, -⟩ <;> omega
    · rcases hl with ⟨-, z⟩ | ⟨z, -⟩ <;> omega
  · intro j hj
    rw [e23]
    rw [show K' 50 0 = K 50 0 by rw [eK]; rfl] at hj
    rw [show K' 51 j = K 51 j by rw [eK]; rfl]
    have := R.2.2.1 j hj
    omega
  · have k24 : K' 24 0 = K 24 0 := by rw [eK]; rfl
    rw [k24]
    rcases hdc with ⟨c1, c2, c3, c4⟩ | ⟨c1, c2, c3, c4⟩
    · exact ⟨Nat.le_trans (Nat.le_of_eq (congrArg Prod.fst c4)) (by show h.2.1 + 1 ≤ _; omega), Nat.le_trans (Nat.le_of_eq (congrArg Prod.snd c4)) (by show h.2.2 + 13 ≤ _; omega)⟩
    · exact ⟨Nat.le_trans (Nat.le_of_eq (congrArg Prod.fst c4)) (by show h.2.1 + 1 + 1 ≤ _; omega), Nat.le_trans (Nat.le_of_eq (congrArg Prod.snd c4)) (by show h.2.2 + 13 + zgrow (K 17 0) ≤ _; omega)⟩
end ZGV
