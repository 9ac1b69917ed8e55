section ZT2
variable {X : zCx} {F : Nat → Option va_E} {o p q : Nat} {S : zS} {D : Nat → Nat → Nat} {W : Nat → Nat → Int32} {K : Nat → Nat → Nat} {h : zHp} {cc : Nat}
theorem k_tell (G : zG X) (I : sInv S cc) (hc : sN S 27 0 < 512) (R : zSt X F o S D W K h p q) (hp : p ≤ 500000 ∧ q ≤ 7000000) (kd w many wr : Int32) (z : Int) (hz : z = w.toInt ∨ ¬ (0 ≤ z ∧ z < sN S 1 0) ∧ ¬ (0 ≤ w.toInt ∧ w.toInt < sN S 1 0)) : ZM X MX10_tell 7 290 [.ref o, .int kd, .int w, .int many, .int wr] h (zPo X F o none (sTells S kd z w many wr) (p + 2) (q + 2000)) := by
  obtain ⟨I0, In, Ig, If, Ib, Iq, Ih, Im, c1, c2, c3, c4⟩ := id I
  have N2 := In.2.1
  have A : zAl X h (D 25 0) (D 26 0) (W 25 0) (sN S 27 0) (K 26 0) (zes S D K 25 0) := zRel_al R.1 (r := 25) (i := 0) (Or.inl ⟨rfl, by decide⟩)
  have hls : zls S 25 0 := Or.inl ⟨rfl, by decide⟩
  have Mm := zRel_mem R.1 In
  have lim := zSt_lim R hp
  have hcap := (R.1.2.2 25 0 (Or.inl ⟨rfl, by decide⟩)).2
  have e27 : zln S K 25 0 = sN S 27 0 := rfl
  rw [e27] at hcap
  have t8 := i_nI (n := sN S 1 0 / 8) (by omega)
  have t4 := i_nI (n := sN S 1 0 / 4) (by omega)
  refine zm_of_z G KX10_tell rfl rfl ?_
  refine z_wf fun wf0 _ => ?_
  have wf : ∀ a e, h.1 a = some e → a < h.2.1 := fun a e he => (wf0 a e he).2
  have l9 : zLim X (znew h (.inr (9, [.int 0, .int 0, .int 0, .int 0, .int 0, .int 0, .int 0, .int 0, .int 0, .int 0])) 10) := ⟨by show h.2.1 + 1 ≤ _; omega, by show h.2.2 + 10 ≤ _; omega⟩
  have fin : ∀ (v5 : Value) (row : Nat → Int32), sTRow S kd z w many wr = row → Z X MX10_tell (7, 290, h.2.1, h.2.2) (znew h (zRc row) 10) 104 [some (.ref o), some (.int kd), some (.int w), some (.int many), some (.int wr), some v5] [.ref h.2.1, .ref (D 25 0)] (zPo X F o none (sTells S kd z w many wr) (p + 2) (q + 2000)) := by
    intro v5 row hrow
    have A2 := zAl_new (e := zRc row) (k := 10) A wf
    refine z_cV A2.1 (c_add G A2 (znew_at h (zRc row) 10) zk9 (zEl_new (zRel_el R.1 I R.2.2.1 hls) wf) (fun e => ⟨by show h.2.1 + 1 + 1 ≤ _; omega, by show h.2.2 + 10 + zgrow (K 26 0) ≤ _; have := zgrow_l (cap := K 26 0) (by omega); omega⟩)) KJx4a65c_add_9ea2d IJx4a65c_add_9ea2d VJx4a65c_add_9ea2d rfl rfl rfl PJx4a65c_add_9ea2d rfl rfl rfl rfl ?_
    refine z_go 90 rfl ?_
    refine z_vret rfl rfl ⟨rfl, ?_⟩
    unfold sTells
    rw [hrow]
    exact zSt_tell R wf row hc
  have ne : ∀ a e, h.1 a = some e → (znew h zR0 10).1 a = some e := fun a e he => by
    rw [znew_ne _ _ _ (by have := wf a e he; omega)]
    exact he
  refine z_go 90 rfl ?_
  refine z_get (zSt_0 R) rfl rfl rfl rfl ?_
  refine z_cV A.1 (c_size (z := .null) G A.1) KJx4a65c_size_8abf5 IJx4a65c_size_8abf5 VJx4a65c_size_8abf5 rfl rfl rfl PJx4a65c_size_8abf5 rfl rfl rfl rfl ?_
  refine z_go 90 rfl ?_
  refine z_br rfl rfl (fun _ => ?_) (fun c => absurd ((n_lt (a := sN S 27 0) (b := 512) (by omega) (by decide)).mpr hc) c)
  refine z_go 90 rfl ?_
  refine z_get (zSt_0 R) rfl rfl rfl rfl ?_
  refine z_go 90 rfl ?_
  refine z_cV Mm.1 (c_isAddr G Mm w) KX6_isAddress IX6_isAddress VX6_isAddress rfl rfl rfl PX6_isAddress rfl rfl rfl rfl ?_
  refine z_ite (p := 0 ≤ w.toInt ∧ w.toInt < sN S 1 0) (fun ad => ?_) (fun ad => ?_)
  · rw [zif_pos ad]
    have ez : z = w.toInt := hz.resolve_right (fun z => z.2 ad)
    obtain ⟨a, rfl, ha⟩ := i_nat (x := w) (by omega)
    rw [i_nI ha] at ez ad
    subst ez
    have hT : sTRow S kd (a : Int) (nI a) many wr = zif ((a : Int) < (sN S 1 0 / 8 : Nat)) _ _ := zif_neg (by omega)
    refine z_br rfl rfl (fun c => absurd c (by first | decide | (dsimp only; decide))) (fun _ => ?_)
    refine z_go 90 rfl ?_
    refine z_get (zSt_0 R) rfl rfl rfl rfl ?_
    refine z_get Mm.1 rfl rfl rfl rfl ?_
    refine z_br rfl rfl (fun c => ?_) (fun c => ?_) <;> (try dsimp only at c)
    · rw [n_le (by omega) (by omega)] at c
      rw [zif_neg (by omega)] at hT
      refine z_go 90 rfl ?_
      refine z_get (zSt_0 R) rfl rfl rfl rfl ?_
      refine z_get Mm.1 rfl rfl rfl rfl ?_
      refine z_br rfl rfl (fun d => ?_) (fun d => ?_) <;> (try dsimp only at d)
      · rw [n_le (by omega) (by omega)] at d
        rw [zif_neg (by omega), Int.toNat_natCast] at hT
        refine z_go 90 rfl ?_
        refine z_get (zSt_0 R) rfl rfl rfl rfl ?_
        refine z_go 90 rfl ?_
        refine z_cV (zRel_15 R.1) (k_nearH G I R.1 a (by omega)) KX4_nearestTo IX4_nearestTo VX4_nearestTo rfl rfl rfl PX4_nearestTo rfl rfl rfl rfl ?_
        cases hb : sBst a (sN S 15) (sN S 16) (fun k => sN S 18 k ≠ 2) (sN S 23 0) with
        | none =>
          rw [hb] at hT
          refine z_go 90 rfl ?_
          refine z_get (zSt_0 R) rfl rfl rfl rfl ?_
          refine z_new 9 (by decide) rfl rfl zn_9 l9 ?_
          refine z_go 90 rfl ?_
          refine z_cI (c_rep0 G (znew_at h zR0 10) kd (nI a) many wr) KX8_init IX8_init rfl rfl rfl rfl rfl PX8_init rfl rfl rfl rfl ?_
          rw [zset_new]
          exact fin .null _ hT
        | some j =>
          rw [hb] at hT
          have hj := R.1.1 18 j (show j < sN S 23 0 by have := (sBst_lt hb).1; omega)
          refine z_go 90 rfl ?_
          refine z_get (zSt_0 R) rfl rfl rfl rfl ?_
          refine z_new 9 (by decide) rfl rfl zn_9 l9 ?_
          refine z_go 90 rfl ?_
          refine z_cI (c_rep1 G (znew_at h zR0 10) (ne _ _ hj) kd many wr a (by omega) (by have := sN_lt I0 (k := 15) (i := j) rfl; omega) (by have := sN_lt I0 (k := 16) (i := j) rfl; omega)) KX8_init IX8_init rfl rfl rfl rfl rfl PX8_init rfl rfl rfl rfl ?_
          rw [zset_new]
          exact fin (.ref (D 18 j)) _ hT
      · rw [n_le (by omega) (by omega)] at d
        rw [zif_pos (by omega), Int.toNat_natCast] at hT
        refine z_go 90 rfl ?_
        refine z_get (zSt_0 R) rfl rfl rfl rfl ?_
        refine z_go 90 rfl ?_
        refine z_cV (R.1.1 8 0 ⟨rfl, by decide⟩) (k_nearF G I R.1 a (by omega)) KX2_nearestTo IX2_nearestTo VX2_nearestTo rfl rfl rfl PX2_nearestTo rfl rfl rfl rfl ?_
        cases hb : sBst a (sN S 11) (sN S 12) (fun v => v % 4 < sN S 10 (v / 4)) (4 * sN S 14 0) with
        | none =>
          rw [hb] at hT
          refine z_go 90 rfl ?_
          refine z_get (zSt_0 R) rfl rfl rfl rfl ?_
          refine z_new 9 (by decide) rfl rfl zn_9 l9 ?_
          refine z_go 90 rfl ?_
          refine z_cI (c_rep0 G (znew_at h zR0 10) kd (nI a) many wr) KX8_init IX8_init rfl rfl rfl rfl rfl PX8_init rfl rfl rfl rfl ?_
          rw [zset_new]
          exact fin .null _ hT
        | some j =>
          rw [hb] at hT
          have hj := R.1.1 14 j ⟨(sBst_lt hb).1, (sBst_lt hb).2⟩
          refine z_go 90 rfl ?_
          refine z_get (zSt_0 R) rfl rfl rfl rfl ?_
          refine z_new 9 (by decide) rfl rfl zn_9 l9 ?_
          refine z_go 90 rfl ?_
          refine z_cI (c_rep10 G (znew_at h zR0 10) (ne _ _ hj) kd many wr a (by omega) (by have := sN_lt I0 (k := 11) (i := j) rfl; omega) (by have := sN_lt I0 (k := 12) (i := j) rfl; omega)) KX8_init IX8_init rfl rfl rfl rfl rfl PX8_init rfl rfl rfl rfl ?_
          rw [zset_new]
          exact fin (.ref (D 14 j)) _ hT
    · rw [n_le (by omega) (by omega)] at c
      rw [zif_pos (by omega), Int.toNat_natCast] at hT
      refine z_go 90 rfl ?_
      refine z_get (zSt_0 R) rfl rfl rfl rfl ?_
      refine z_go 90 rfl ?_
      refine z_cV (R.1.1 4 0 ⟨rfl, by decide⟩) (k_nearG G I R.1 a (by omega)) KX3_nearestTo IX3_nearestTo VX3_nearestTo rfl rfl rfl PX3_nearestTo rfl rfl rfl rfl ?_
      cases hb : sBst a (sN S 5) (sN S 6) (fun _ => True) (sN S 7 0) with
      | none =>
        rw [hb] at hT
        refine z_go 90 rfl ?_
        refine z_get (zSt_0 R) rfl rfl rfl rfl ?_
        refine z_new 9 (by decide) rfl rfl zn_9 l9 ?_
        refine z_go 90 rfl ?_
        refine z_cI (c_rep0 G (znew_at h zR0 10) kd (nI a) many wr) KX8_init IX8_init rfl rfl rfl rfl rfl PX8_init rfl rfl rfl rfl ?_
        rw [zset_new]
        exact fin .null _ hT
      | some j =>
        rw [hb] at hT
        have hj := R.1.1 7 j (show j < sN S 7 0 by have := (sBst_lt hb).1; omega)
        refine z_go 90 rfl ?_
        refine z_get (zSt_0 R) rfl rfl rfl rfl ?_
        refine z_new 9 (by decide) rfl rfl zn_9 l9 ?_
        refine z_go 90 rfl ?_
        refine z_cI (c_rep8 G (znew_at h zR0 10) (ne _ _ hj) kd many wr a (by omega) (by have := sN_lt I0 (k := 5) (i := j) rfl; omega) (by have := sN_lt I0 (k := 6) (i := j) rfl; omega)) KX8_init IX8_init rfl rfl rfl rfl rfl PX8_init rfl rfl rfl rfl ?_
        rw [zset_new]
        exact fin (.ref (D 7 j)) _ hT
  · rw [zif_neg ad]
    refine z_br rfl rfl (fun _ => ?_) (fun c => absurd c (by first | decide | (dsimp only; decide)))
    refine z_go 90 rfl ?_
    refine z_get (zSt_0 R) rfl rfl rfl rfl ?_
    refine z_new 9 (by decide) rfl rfl zn_9 l9 ?_
    refine z_go 90 rfl ?_
    refine z_cI (c_rep0 G (znew_at h zR0 10) kd w many wr) KX8_init IX8_init rfl rfl rfl rfl rfl PX8_init rfl rfl rfl rfl ?_
    rw [zset_new]
    exact fin .null _ (zif_pos (by omega))
end ZT2
