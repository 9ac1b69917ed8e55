section ZT3
variable {X : zCx} {F : Nat → Option va_E} {o p q : Nat} {S : zS} {D : Nat → Nat → Nat} {W : Nat → Nat → Int32} {K : Nat → Nat → Nat} {h : zHp} {cc : Nat}
theorem k_take (G : zG X) (I : sInv S cc) (R : zSt X F o S D W K h p q) (hp : p ≤ 500000 ∧ q ≤ 7000000) {b c' : Nat} (site : Int32) (hb : b < sN S 23 0) (hl : sN S 18 b = 0) (h1 : sN S 25 0 + 1 ≤ c') (h2 : cc ≤ c') (h3 : c' ≤ 512) : ZM X MX4_takeBack 7 290 [.ref (D 15 0), .ref (D 18 b), .int site] h (fun r h' => r = .inl none ∧ ∃ D' W' K', (∀ k, D' 18 k = D 18 k) ∧ zSt X F o (sGoes S b site) D' W' K' h' (p + 2) (q + 2000)) := by
  obtain ⟨I0, In, Ig, If, Ib, Iq, Ih, Im, c1, c2, c3, c4⟩ := id I
  have N2 := In.2.1
  have ibb := Ib.1 b hb
  have hlv := sHol0_live (site := site) hb hl
  have hHBl := sHB_le I
  have l20 := sN_lt I0 (k := 20) (i := b) rfl
  have hls : zls S 19 0 := Or.inl ⟨rfl, by decide⟩
  have A : zAl X h (D 19 0) (D 20 0) (W 19 0) (sN S 25 0) (K 20 0) (zes S D K 19 0) := zRel_al R.1 (r := 19) (i := 0) hls
  have A9 := R.1.2.2 19 0 hls
  have A2 : sN S 25 0 ≤ K 20 0 := A9.2.1
  have A3 : K 20 0 ≤ 1600 := A9.2.2
  have lim := zSt_lim R hp
  have hbd := R.2.2.2.2
  have v18 : zVF F S K 18 b := Or.inl hb
  have v15 : zVF F S K 15 0 := Or.inl ⟨rfl, by decide⟩
  have v19 : zVF F S K 19 0 := Or.inl ⟨rfl, by decide⟩
  have x18 : h.1 (D 18 b) = some (zBc S b (nI (sN S 18 b)) (S 22 b) (W 100 b) (W 101 b)) := R.1.1 18 b hb
  have w1 := zW_put (zSt_W R) v18 (zBc S b 1 site (W 100 b) (W 101 b))
  have w2 := zW_put w1 v15 (zHc S D (sLive S (sN S 23 0) - 1) (sLiveB S (sN S 23 0) - sN S 20 b) (sHB S + sN S 20 b))
  refine zm_of_z G KX4_takeBack rfl rfl ?_
  refine z_go 90 rfl ?_
  refine z_put x18 rfl rfl rfl rfl rfl rfl (by simp) ?_
  refine z_go 90 rfl ?_
  refine z_put (zset_at _ _ _) rfl rfl rfl rfl rfl rfl (by simp) ?_
  rw [zset_set]
  refine z_go 90 rfl ?_
  have y15 : _ = some (zHc S D (sLive S (sN S 23 0)) (sLiveB S (sN S 23 0)) (sHB S)) := w1.1 15 0 v15
  have y18 := w1.1 18 b v18
  rw [u2_at] at y18
  refine z_get y15 rfl rfl rfl rfl ?_
  refine z_go 90 rfl ?_
  rw [show nI (sLive S (sN S 23 0)) - (1 : Int32) = nI (sLive S (sN S 23 0) - 1) from n_sub (b := 1) (by omega) (by have := zSum_le (g := fun i => if sN S 18 i = 0 then 1 else 0) (b := 1) (fun i => by split <;> omega) (sN S 23 0); have e : sLive S (sN S 23 0) = zSum (fun i => if sN S 18 i = 0 then 1 else 0) (sN S 23 0) := rfl; omega)]
  refine z_put y15 rfl rfl rfl rfl rfl rfl (by simp) ?_
  refine z_go 90 rfl ?_
  refine z_get (zset_at _ _ _) rfl rfl rfl rfl ?_
  refine z_go 90 rfl ?_
  have z18 : ∀ e, (zset (zset h (D 18 b) (zBc S b 1 site (W 100 b) (W 101 b))) (D 15 0) e).1 (D 18 b) = some (zBc S b 1 site (W 100 b) (W 101 b)) := fun e => by
    have := (zW_put w1 v15 e).1 18 b v18
    rw [u2_nr (show (18 : Nat) ≠ 15 by decide), u2_at] at this
    exact this
  refine z_get (z18 _) rfl rfl rfl rfl ?_
  refine z_go 90 rfl ?_
  have llb : sLiveB S (sN S 23 0) ≤ 512 * 10000 := by
    have := zSum_le (g := fun i => if sN S 18 i = 0 then sN S 20 i else 0) (b := 10000) (fun i => by have := sN_lt I0 (k := 20) (i := i) rfl; split <;> omega) (sN S 23 0)
    have e : sLiveB S (sN S 23 0) = zSum (fun i => if sN S 18 i = 0 then sN S 20 i else 0) (sN S 23 0) := rfl
    have := Nat.mul_le_mul_right 10000 (show sN S 23 0 ≤ 512 by omega)
    omega
  rw [n_sub (show sN S 20 b ≤ sLiveB S (sN S 23 0) by omega) (by omega)]
  refine z_put (zset_at _ _ _) rfl rfl rfl rfl rfl rfl (by simp) ?_
  rw [zset_set]
  refine z_go 90 rfl ?_
  refine z_get (zset_at _ _ _) rfl rfl rfl rfl ?_
  refine z_go 90 rfl ?_
  refine z_get (z18 _) rfl rfl rfl rfl ?_
  refine z_go 90 rfl ?_
  rw [n_add]
  refine z_put (zset_at _ _ _) rfl rfl rfl rfl rfl rfl (by simp) ?_
  rw [zset_set]
  refine z_go 90 rfl ?_
  refine z_get (zset_at _ _ _) rfl rfl rfl rfl ?_
  refine z_go 90 rfl ?_
  refine z_wf fun wf0 _ => ?_
  have wf := fun a e he => (wf0 a e he).2
  have y19 : _ = some (zLc (W 19 0) (D 20 0) (sN S 25 0)) := w2.1 19 0 v19
  have B : zAl X _ (D 19 0) (D 20 0) (W 19 0) (sN S 25 0) (K 20 0) (zes S D K 19 0) := ⟨y19, by
    by_cases c : K 20 0 = 0
    · exact Or.inl ⟨c, A9.1 c⟩
    · exact Or.inr ⟨by omega, w2.1 20 0 (Or.inl ⟨rfl, by omega⟩)⟩, A2, by omega⟩
  have hel : zEl _ (zes S D K 19 0) 0 (K 20 0) := fun j _ _ y hy => by
    unfold zes at hy
    by_cases c : j < zln S K 19 0
    · rw [if_pos c] at hy
      cases hy
      have hk := (Iq.1 j c).1
      have := w2.1 18 (sN S 24 j) (Or.inl hk)
      rw [u2_nr (show (18 : Nat) ≠ 15 by decide)] at this
      by_cases d : sN S 24 j = b
      · rw [d, u2_at] at this
        exact ⟨1, _, by show _ = some _; rw [show zel S D K 19 0 j = D 18 b from congrArg (D 18) d]; exact this, zk1⟩
      · rw [u2_ni (by omega)] at this
        exact ⟨1, _, this, zk1⟩
    · rw [if_neg c] at hy
      cases hy
  refine z_cV B.1 (c_add G B (z18 _) zk1 hel (fun e => ⟨by show h.2.1 + 1 ≤ _; omega, by show h.2.2 + zgrow (K 20 0) ≤ _; have := zgrow_l (cap := K 20 0) (by omega); omega⟩)) KJx4a65c_add_9ea2d IJx4a65c_add_9ea2d VJx4a65c_add_9ea2d rfl rfl rfl PJx4a65c_add_9ea2d rfl rfl rfl rfl ?_
  obtain ⟨d', cap', hdc, w3⟩ := zW_push (X := X) w2 wf (r := 19) (i := 0) (n := sN S 25 0) (cap := K 20 0) (b := D 18 b) (mc := W 19 0 + 1) (g := zes S D K 19 0) v19 (fun c => Or.inl ⟨rfl, c⟩) A2 (fun j hj => zes_none hj)
  have hcap : sN S 25 0 + 1 ≤ cap' ∧ cap' ≤ 1600 := by
    rcases hdc with ⟨c1, c2, c3, c4⟩ | ⟨c1, c2, c3, c4⟩
    · omega
    · have := zgrow_l (cap := K 20 0) (by omega)
      omega
  have R3 := zSt_hold I R hb hl (by omega) hcap (by
    rcases hdc with ⟨c1, c2, c3, c4⟩ | ⟨c1, c2, c3, c4⟩
    · exact ⟨Nat.le_trans (Nat.le_of_eq (congrArg Prod.fst c4)) (by show h.2.1 ≤ _; omega), Nat.le_trans (Nat.le_of_eq (congrArg Prod.snd c4)) (by show h.2.2 ≤ _; omega)⟩
    · exact ⟨Nat.le_trans (Nat.le_of_eq (congrArg Prod.fst c4)) (by show h.2.1 + 1 ≤ _; omega), Nat.le_trans (Nat.le_of_eq (congrArg Prod.snd c4)) (by show h.2.2 + zgrow (K 20 0) ≤ _; omega)⟩) w3
  have Mm := zRel_mem R3.1 In
  have k15 := zRel_15 R3.1
  have k18 := R3.1.1 18 b hb
  refine z_go 90 rfl ?_
  refine z_get k15 rfl rfl rfl rfl ?_
  refine z_go 90 rfl ?_
  refine z_get k18 rfl rfl rfl rfl ?_
  refine z_go 90 rfl ?_
  refine z_get k18 rfl rfl rfl rfl ?_
  refine z_go 90 rfl ?_
  refine z_cV Mm.1 (c_paint G Mm (sN S 15 b) (sN S 16 b) 253 (by show _ ≤ sN S 1 0; have := sCh_b (sN S 16 b); omega)) KX6_paint IX6_paint VX6_paint rfl rfl rfl PX6_paint rfl rfl rfl rfl ?_
  have R4 := zSt_S R3 (gPaint (sHol0 S b site 4) (sN S 15 b) (sN S 15 b + sN S 16 b) 253)
  have R4 : zSt X F o (sHold S b site) _ _ _ _ (p + 2) (q + 2000) := R4
  have I4 := sHold_inv (site := site) I hb hl h1 h2 h3
  have B4 : zAl X _ (D 19 0) d' (W 19 0 + 1) (sN (sHold S b site) 25 0) cap' _ := zRel_al R4.1 (r := 19) (i := 0) hls
  have k15 := zRel_15 R4.1
  refine z_go 90 rfl ?_
  refine z_get k15 rfl rfl rfl rfl ?_
  refine z_cV B4.1 (c_size (z := .null) G B4.1) KJx4a65c_size_8abf5 IJx4a65c_size_8abf5 VJx4a65c_size_8abf5 rfl rfl rfl PJx4a65c_size_8abf5 rfl rfl rfl rfl ?_
  refine z_go 90 rfl ?_
  have loop : ∀ (k : Nat) (S1 : zS) (W1 : Nat → Nat → Int32) (g1 : zHp), sInv S1 c' → zSt X F o S1 (u2 D 20 0 d') W1 (u2 K 20 0 cap') g1 (p + 2) (q + 2000) → k = sN S1 25 0 → sGoes S b site = sShed k S1 → Z X MX4_takeBack (7, 290, h.2.1, h.2.2) g1 82 [some (.ref (D 15 0)), some (.ref (D 18 b)), some (.int site), some (.int (nI k))] [.int (nI k)] (fun r h' => r = .inl none ∧ ∃ D' W' K', (∀ k, D' 18 k = D 18 k) ∧ zSt X F o (sGoes S b site) D' W' K' h' (p + 2) (q + 2000)) := by
    intro k
    induction k with
    | zero =>
      intro S1 W1 g1 I1 R1 hk e
      rw [e]
      refine z_br rfl rfl (fun _ => ?_) (fun c => absurd c (by first | decide | (dsimp only; decide)))
      refine z_go 90 rfl ?_
      exact z_vret rfl rfl ⟨rfl, u2 D 20 0 d', W1, u2 K 20 0 cap', fun _ => rfl, R1⟩
    | succ k ih =>
      intro S1 W1 g1 I1 R1 hk e
      have hk9 : k + 1 ≤ 512 := by have := I1.2.2.2.2.2.2.2.2.2.2.1; have := I1.2.2.2.2.2.2.2.2.1; omega
      have hHB1 := sHB_le I1
      have h2b := I1.2.1.2.2.2
      have N21 := I1.2.1.2.1
      have q15 := zRel_15 R1.1
      have q15 : g1.1 (D 15 0) = _ := q15
      refine z_br rfl rfl (fun c => absurd c (by
        show ¬ nI (k + 1) ≤ nI 0
        rw [n_le (by omega) (by omega)]
        omega)) (fun _ => ?_)
      refine z_go 90 rfl ?_
      refine z_get q15 rfl rfl rfl rfl ?_
      refine z_go 90 rfl ?_
      refine z_get q15 rfl rfl rfl rfl ?_
      refine z_br rfl rfl (fun c => ?_) (fun c => ?_) <;> (try dsimp only at c)
      · rw [n_le (by omega) (by omega)] at c
        have e2 : sShed (k + 1) S1 = S1 := if_neg (by omega)
        rw [e, e2]
        exact z_vret rfl rfl ⟨rfl, u2 D 20 0 d', W1, u2 K 20 0 cap', fun _ => rfl, R1⟩
      · rw [n_le (by omega) (by omega)] at c
        have e2 : sShed (k + 1) S1 = sShed k (sOld S1) := if_pos (by omega)
        refine z_go 90 rfl ?_
        have ro := k_relOld G I1 R1 (by omega)
        refine z_cVP q15 ro KX4_releaseOldest IX4_releaseOldest VX4_releaseOldest rfl rfl rfl PX4_releaseOldest rfl rfl rfl rfl ?_
        intro g2 P2
        obtain ⟨W2, R2⟩ := P2
        have I2 := sOld_inv I1 (by omega)
        refine z_go 90 rfl ?_
        have e3 : nI (k + 1) + (-1 : Int32) = nI k := by
          apply i_ext
          have t1 := i_nI (n := k + 1) (by omega)
          have t2 := i_nI (n := k) (by omega)
          have t3 : (-1 : Int32).toInt = -1 := rfl
          rw [i_add (by omega) (by omega)]
          omega
        rw [e3]
        exact ih (sOld S1) W2 g2 I2 R2 (by rw [sOld_25 I1.1]; omega) (by rw [e, e2])
  exact loop (sN (sHold S b site) 25 0) (sHold S b site) _ _ I4 R4 rfl (by rw [sHold_25 I0]; rfl)
end ZT3
