section ZOL
variable {X : zCx} {F : Nat → Option va_E} {o p q : Nat} {S : zS} {D : Nat → Nat → Nat} {W : Nat → Nat → Int32} {K : Nat → Nat → Nat} {h : zHp} {cc : Nat}
abbrev zBc (S : zS) (i : Nat) (st fd w0 w1 : Int32) : va_E := .inr (1, zRgF 3 (nI i) (sN S 15 i) (sN S 16 i) (S 21 i) fd [.int (S 17 i), .int (nI (sN S 19 i)), .int (nI (sN S 20 i)), .int st, .int w0, .int w1])
abbrev zHc (S : zS) (D : Nat → Nat → Nat) (x y z : Nat) : va_E := .inr (5, [.ref (D 1 0), .int (nI (sN S 2 0)), .ref (D 16 0), .ref (D 19 0), .ref (D 21 0), .int (nI x), .int (nI y), .int (nI z)])
theorem zRem_0 {g : Nat → Option Nat} {n : Nat} (hn : 0 < n) (j : Nat) : zRem g 0 n j = if j < n - 1 then g (j + 1) else if j = n - 1 then none else g j := by
  unfold zRem
  show (if j = n - 1 then none else va_cpy g g (0 + 1) 0 (n - 1 - 0) j) = _
  unfold va_cpy
  by_cases c : j = n - 1
  · rw [if_pos c, if_neg (by omega), if_pos c]
  · rw [if_neg c]
    by_cases d : j < n - 1
    · rw [if_pos (by omega), if_pos d]
      refine congrArg g ?_
      omega
    · rw [if_neg (by omega), if_neg d, if_neg c]
theorem sHB_old {S : zS} {c : Nat} (I : sInv S c) (hq : 0 < sN S 25 0) : sHB S = sN S 20 (sN S 24 0) + sHB (sOld S) := by
  have e : sN S 25 0 = (sN S 25 0 - 1) + 1 := by omega
  have e2 : sHB S = zSum (fun i => sN S 20 (sN S 24 i)) ((sN S 25 0 - 1) + 1) := by
    unfold sHB
    rw [← e]
  rw [e2, zSum_sh]
  refine congrArg (sN S 20 (sN S 24 0) + ·) ?_
  unfold sHB
  rw [sOld_25 I.1]
  refine zSum_c (fun i hi => ?_)
  rw [sOld_24, if_pos hi]
  rfl
theorem sLive_old {S : zS} {c : Nat} (I : sInv S c) (hq : 0 < sN S 25 0) (n : Nat) : sLive (sOld S) n = sLive S n ∧ sLiveB (sOld S) n = sLiveB S n := by
  have hb := (I.2.2.2.2.2.1.1 0 hq).2
  have k : ∀ i, (sN (sOld S) 18 i = 0 ↔ sN S 18 i = 0) := fun i => by
    rw [sOld_18]
    by_cases c : i = sN S 24 0
    · rw [if_pos c, c, hb]
      omega
    · rw [if_neg c]
  constructor
  · refine zSum_c (fun i _ => ?_)
    by_cases c : sN S 18 i = 0
    · rw [if_pos c, if_pos ((k i).mpr c)]
    · rw [if_neg c, if_neg (fun z => c ((k i).mp z))]
  · refine zSum_c (fun i _ => ?_)
    by_cases c : sN S 18 i = 0
    · rw [if_pos c, if_pos ((k i).mpr c)]
      rfl
    · rw [if_neg c, if_neg (fun z => c ((k i).mp z))]
theorem k_relOld (G : zG X) (I : sInv S cc) (R : zSt X F o S D W K h p q) (hq : 0 < sN S 25 0) : ZM X MX4_releaseOldest 3 190 [.ref (D 15 0)] h (fun r h' => r = .inl none ∧ ∃ W', zSt X F o (sOld S) D W' K h' p q) := by
  obtain ⟨I0, In, Ig, If, Ib, Iq, Ih, Im, c1, c2, c3, c4⟩ := id I
  have N2 := In.2.1
  have i1 := In.2.2.1
  have hb := Iq.1 0 hq
  obtain ⟨b, eb⟩ : ∃ b, b = sN S 24 0 := ⟨_, rfl⟩
  obtain ⟨n, en⟩ : ∃ n, n = sN S 25 0 := ⟨_, rfl⟩
  rw [← eb] at hb
  obtain ⟨f, m, f1, f2, f3, f4⟩ := sIb_u I hb.1
  have ibb := Ib.1 b hb.1
  have A : zAl X h (D 19 0) (D 20 0) (W 19 0) (sN S 25 0) (K 20 0) (zes S D K 19 0) := zRel_al R.1 (r := 19) (i := 0) (Or.inl ⟨rfl, by decide⟩)
  have hls : zls S 19 0 := Or.inl ⟨rfl, by decide⟩
  have A9 := R.1.2.2 19 0 hls
  have hcap : 0 < K 20 0 := by have := A.2.2.1; omega
  have h15 := zRel_15 R.1
  have hHB := sHB_old I hq
  have hHBl := sHB_le I
  rw [← eb] at hHB
  rw [← en] at A hq c3
  have v20 : zVF F S K 20 0 := Or.inl ⟨rfl, hcap⟩
  have v19 : zVF F S K 19 0 := Or.inl ⟨rfl, by decide⟩
  have v18 : zVF F S K 18 b := Or.inl hb.1
  have v15 : zVF F S K 15 0 := Or.inl ⟨rfl, by decide⟩
  have v3 : zVF F S K 3 0 := Or.inl ⟨rfl, by decide⟩
  have v21 : zVF F S K 21 0 := Or.inl ⟨rfl, by decide⟩
  have w2 := zW_put (zW_put (zSt_W R) v20 (zOb X (K 20 0) (zRem (zes S D K 19 0) 0 n))) v19 (zLc (W 19 0 + 1) (D 20 0) (n - 1))
  have w3 := zW_put w2 v18 (zBc S b 2 (S 22 b) (W 100 b) (W 101 b))
  have w4 := zW_put w3 v15 (zHc S D (sLive S (sN S 23 0)) (sLiveB S (sN S 23 0)) (sHB S - sN S 20 b))
  have w5 := zW_put w4 v3 (zI X (sN S 1 0 / 8) (gPaint (S 4) (sN S 19 b) (sN S 19 b + sN S 20 b) 250))
  have w6 := zW_put w5 v21 (zBk X ((sN S 1 0 - sN S 1 0 / 4) / 16) (zOw (fun u => (zow S u).map (D 18)) f m none))
  refine zm_of_z G KX4_releaseOldest rfl rfl ?_
  refine z_go 90 rfl ?_
  refine z_get h15 rfl rfl rfl rfl ?_
  refine z_cV A.1 (c_isEmpty G (by omega) A.1) KJx4a65c_isEmpty_aae02 IJx4a65c_isEmpty_aae02 VJx4a65c_isEmpty_aae02 rfl rfl rfl PJx4a65c_isEmpty_aae02 rfl rfl rfl rfl ?_
  rw [if_neg (show ¬ n = 0 by omega)]
  refine z_br rfl rfl (fun _ => ?_) (fun c => absurd c (by first | decide | (dsimp only; decide)))
  refine z_go 90 rfl ?_
  refine z_get h15 rfl rfl rfl rfl ?_
  refine z_go 90 rfl ?_
  refine z_cV A.1 (c_remove G (b := D 18 b) (i := 0) A (by omega) (zRel_el R.1 I R.2.2.1 hls) (by rw [eb]; exact if_pos (by show 0 < sN S 25 0; omega))) KJx4a65c_remove_915e3 IJx4a65c_remove_915e3 VJx4a65c_remove_915e3 rfl rfl rfl PJx4a65c_remove_915e3 rfl rfl rfl rfl ?_
  have q18 : (zset (zset h (D 20 0) (zOb X (K 20 0) (zRem (zes S D K 19 0) 0 n))) (D 19 0) (zLc (W 19 0 + 1) (D 20 0) (n - 1))).1 (D 18 b) = some (zBc S b (nI (sN S 18 b)) (S 22 b) (W 100 b) (W 101 b)) := w2.1 18 b v18
  refine z_cast q18 rfl rfl (by decide +kernel) ?_
  refine z_go 90 rfl ?_
  refine z_put q18 rfl rfl rfl rfl rfl rfl (by simp) ?_
  refine z_go 90 rfl ?_
  have q15 := w3.1 15 0 v15
  have q18' := w3.1 18 b v18
  rw [u2_at] at q18'
  refine z_get (show _ = some (zHc S D (sLive S (sN S 23 0)) (sLiveB S (sN S 23 0)) (sHB S)) from q15) rfl rfl rfl rfl ?_
  refine z_go 90 rfl ?_
  refine z_get (show _ = some (zBc S b 2 (S 22 b) (W 100 b) (W 101 b)) from q18') rfl rfl rfl rfl ?_
  refine z_go 90 rfl ?_
  rw [n_sub (show sN S 20 b ≤ sHB S by omega) (by omega)]
  refine z_put (show _ = some (zHc S D (sLive S (sN S 23 0)) (sLiveB S (sN S 23 0)) (sHB S)) from q15) rfl rfl rfl rfl rfl rfl (by simp) ?_
  refine z_go 90 rfl ?_
  have r15 := w4.1 15 0 v15
  rw [u2_at] at r15
  have r18 := w4.1 18 b v18
  rw [u2_nr (show (18 : Nat) ≠ 15 by decide), u2_at] at r18
  refine z_get r15 rfl rfl rfl rfl ?_
  refine z_go 90 rfl ?_
  refine z_get r18 rfl rfl rfl rfl ?_
  refine z_go 90 rfl ?_
  refine z_get r18 rfl rfl rfl rfl ?_
  refine z_go 90 rfl ?_
  have Mm : zMem X _ (D 1 0) (D 2 0) (D 3 0) (sN S 1 0) (gM S) (S 4) := ⟨w4.1 1 0 (Or.inl ⟨rfl, by decide⟩), w4.1 2 0 (Or.inl ⟨rfl, by decide⟩), w4.1 3 0 v3, In.1, In.2.1, In.2.2.1, fun z => by have := (w4.2 2 0 3 0 (Or.inl ⟨rfl, by decide⟩) v3 z).1; omega⟩
  refine z_cV Mm.1 (c_paint G Mm (sN S 19 b) (sN S 20 b) 250 (by omega)) KX6_paint IX6_paint VX6_paint rfl rfl rfl PX6_paint rfl rfl rfl rfl ?_
  refine z_go 90 rfl ?_
  have p15 : _ = some (zHc S D (sLive S (sN S 23 0)) (sLiveB S (sN S 23 0)) (sHB S - sN S 20 b)) := w5.1 15 0 v15
  have p18 := w5.1 18 b v18
  rw [u2_nr (show (18 : Nat) ≠ 3 by decide), u2_nr (show (18 : Nat) ≠ 15 by decide), u2_at] at p18
  have e18 : zBc S b 2 (S 22 b) (W 100 b) (W 101 b) = .inr (1, zRgF 3 (nI b) (sN S 15 b) (sN S 16 b) (S 21 b) (S 22 b) [.int (S 17 b), .int (nI (sN S 1 0 / 4 + 16 * f)), .int (nI (16 * m)), .int 2, .int (W 100 b), .int (W 101 b)]) := by
    unfold zBc
    rw [f1, f2]
  have p18 := p18.trans (congrArg some e18)
  have p21 : _ = some (zBk X ((sN S 1 0 - sN S 1 0 / 4) / 16) (fun u => (zow S u).map (D 18))) := w5.1 21 0 v21
  refine z_cV p15 (c_setOw G p15 (w5.1 1 0 (Or.inl ⟨rfl, by decide⟩)) p18 p21 (by omega) (by omega) f4 none (Or.inl rfl)) KX4_setOwner IX4_setOwner VX4_setOwner rfl rfl rfl PX4_setOwner rfl rfl rfl rfl ?_
  refine z_vret rfl rfl ⟨rfl, u2 W 19 0 (W 19 0 + 1), ?_⟩
  have e25 := sOld_25 I0
  have aff : ∀ r, r < 28 → zhk [4, 18, 24, 25] [] [19] [] r = false → r = 3 ∨ r = 15 ∨ r = 18 ∨ r = 19 ∨ r = 20 ∨ r = 21 := by decide
  refine zSt_mk [4, 18, 24, 25] [] [19] [] R w6 (fun k ⟨a1, a2, a3, a4, _⟩ => by simp only [sOld, sPaint, zV, a1, a2, a3, a4]) (fun _ _ => rfl) (fun k ⟨a, _⟩ => by simp only [u2, a]) (fun _ _ => rfl) (zK1_u rfl (zK1_u rfl (zK1_u rfl (zK1_u rfl (zK1_u rfl (zK1_u rfl zK1_r)))))) (fun r i h28 hc hv => ?_) (fun r i h28 hc hl => ?_) rfl R.2.2.1 R.2.2.2.2
  · rcases aff r h28 hc with rfl | rfl | rfl | rfl | rfl | rfl
    · obtain ⟨rfl, -⟩ := id hv
      refine ⟨v3, ?_⟩
      show zI X (sN S 1 0 / 8) (gPaint (S 4) (sN S 19 b) (sN S 19 b + sN S 20 b) 250) = zI X (sN S 1 0 / 8) (sOld S 4)
      rw [eb]
      rfl
    · obtain ⟨rfl, -⟩ := id hv
      refine ⟨v15, ?_⟩
      show zHc S D (sLive S (sN S 23 0)) (sLiveB S (sN S 23 0)) (sHB S - sN S 20 b) = zHc S D (sLive (sOld S) (sN S 23 0)) (sLiveB (sOld S) (sN S 23 0)) (sHB (sOld S))
      rw [(sLive_old I (by omega) _).1, (sLive_old I (by omega) _).2, show sHB S - sN S 20 b = sHB (sOld S) by omega]
    · have hv' : i < sN S 23 0 := hv
      refine ⟨Or.inl hv', ?_⟩
      show u2 _ 18 b (zBc S b 2 (S 22 b) (W 100 b) (W 101 b)) 18 i = zBc S i (nI (sN (sOld S) 18 i)) (S 22 i) (W 100 i) (W 101 i)
      rw [sOld_18, ← eb]
      by_cases c : i = b
      · subst c
        rw [u2_at, if_pos rfl]
        rfl
      · rw [u2_ni (by omega), if_neg c]
        rfl
    · obtain ⟨rfl, -⟩ := id hv
      refine ⟨v19, ?_⟩
      show zLc (W 19 0 + 1) (D 20 0) (n - 1) = zLc (W 19 0 + 1) (D 20 0) (sN (sOld S) 25 0)
      rw [e25, en]
    · obtain ⟨rfl, -⟩ := id hv
      refine ⟨v20, ?_⟩
      show zOb X (K 20 0) (zRem (zes S D K 19 0) 0 n) = zOb X (K 20 0) (zes (sOld S) D K 19 0)
      refine congrArg (zOb X (K 20 0)) (funext fun j => ?_)
      rw [zRem_0 hq]
      show _ = if j < sN (sOld S) 25 0 then some (D 18 (sN (sOld S) 24 j)) else none
      rw [e25, sOld_24, ← en]
      show (if j < n - 1 then (if j + 1 < sN S 25 0 then some (D 18 (sN S 24 (j + 1))) else none) else if j = n - 1 then none else if j < sN S 25 0 then some (D 18 (sN S 24 j)) else none) = _
      rw [← en]
      by_cases c : j < n - 1
      · rw [if_pos c, if_pos (by omega), if_pos c, if_pos c]
      · rw [if_neg c, if_neg c]
        by_cases d : j = n - 1
        · rw [if_pos d]
        · rw [if_neg d, if_neg (by omega)]
    · obtain ⟨rfl, -⟩ := id hv
      refine ⟨v21, ?_⟩
      show zBk X ((sN S 1 0 - sN S 1 0 / 4) / 16) (zOw (fun u => (zow S u).map (D 18)) f m none) = zBk X ((sN S 1 0 - sN S 1 0 / 4) / 16) (fun u => (zow (sOld S) u).map (D 18))
      refine congrArg (zBk X ((sN S 1 0 - sN S 1 0 / 4) / 16)) (funext fun u => ?_)
      rw [zow_gone (S' := sOld S) I hb.1 (by omega) (fun i => by rw [sOld_18, ← eb]) rfl rfl rfl rfl]
      unfold zOw
      by_cases c : f ≤ u ∧ u < f + m
      · rw [if_pos c, if_pos (by omega)]
        rfl
      · rw [if_neg c, if_neg (by omega)]
  · rcases aff r h28 hc with rfl | rfl | rfl | rfl | rfl | rfl
    · rcases hl with ⟨-, z⟩ | ⟨z, -⟩ <;> omega
    · rcases hl with ⟨-, z⟩ | ⟨z, -⟩ <;> omega
    · rcases hl with ⟨-, z⟩ | ⟨z, -⟩ <;> omega
    · obtain ⟨rfl, -⟩ : i = 0 ∧ True := by rcases hl with ⟨z, -⟩ | ⟨z, -⟩ <;> first | exact ⟨z, trivial⟩ | omega
      refine ⟨A9.1, ?_, A9.2.2⟩
      show sN (sOld S) 25 0 ≤ K 20 0
      have : sN S 25 0 ≤ K 20 0 := A9.2.1
      omega
    · rcases hl with ⟨-, z⟩ | ⟨z, -⟩ <;> omega
    · rcases hl with ⟨-, z⟩ | ⟨z, -⟩ <;> omega
end ZOL
