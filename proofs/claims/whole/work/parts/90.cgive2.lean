section ZGE
variable {X : zCx} {M : zMI} {f : zFr} {h : zHp} {pc : Nat} {L : zLo} {Q : zRs → zHp → Prop}
theorem z_cVE {P : Option Value → zHp → Prop} {M' : zMI} {fr lo b ci : Nat} {fs As st stk : List Value} {p0 idx nx t : Nat} {lv : Int32} (hob : h.1 b = some (.inr (ci, fs))) (hM : ZM X M' fr lo (.ref b :: As) h (fun r h' => ∃ v, r = .inl v ∧ P v h')) (hK : zMK M') (hin : Jvm.Cond.instanceMethod (zNm M') ∈ lw_tbl) (hse : Jvm.Cond.selects (zcl ci).1 (zNm M') (zNm M') ∈ lw_tbl) (hci : Nat.ble (ci + 1) 13 = true) (hf : zlk (zFt M) pc = some (p0, .invokevirtual idx, nx, lv, t)) (hr : zML[t]? = some ((zNm M).cls, idx, zNm M')) (hln : (parseMethodDescriptor (zNm M').desc).map (fun d => d.parameters.length) = some As.length) (hfr : Nat.ble (fr + 1) f.1 = true) (hlc : Nat.ble (8 + (zNL M' + 11) + lo) f.2.1 = true) (hstk : zap (.ref b :: As) st = stk) (hw : Nat.ble (zcat st) 8 = true)
    (kk : ∀ v h', P v h' → Z X M f h' nx L (v.toList ++ st) Q) : Z X M f h pc L stk Q :=
  z_invV hM hK hob (Nat.le_of_ble_eq_true hci) hin hse hf hr hln hfr hlc hstk hw (fun v' h' q => by obtain ⟨v, q1, q2⟩ := q; cases q1; exact kk _ h' q2) (fun E h' q => by obtain ⟨v, q1, q2⟩ := q; cases q1)
end ZGE
section ZG2
variable {X : zCx} {F : Nat → Option va_E} {o p q : Nat} {S : zS} {D : Nat → Nat → Nat} {W : Nat → Nat → Int32} {K : Nat → Nat → Nat} {h : zHp} {cc : Nat}
def zGv (X : zCx) (F : Nat → Option va_E) (o : Nat) (S : zS) (D K : Nat → Nat → Nat) (kd : Int32) (n : Nat) (site : Int32) (p q : Nat) (v : Option Value) (h' : zHp) : Prop :=
  ((sMake (sCh n) (sN S 25 0) S).2 = none ∧ v = some .null ∧ ∃ W', zSt X F o (sMake (sCh n) (sN S 25 0) S).1 D W' K h' p q) ∨
  ∃ a D' W' K', (sMake (sCh n) (sN S 25 0) S).2 = some a ∧ v = some (.ref (D' 18 (sN S 23 0))) ∧ (∀ k, k ≠ sN S 23 0 → D' 18 k = D 18 k) ∧ D' 1 0 = D 1 0 ∧ D' 15 0 = D 15 0 ∧ zSt X F o (sGive (sMake (sCh n) (sN S 25 0) S).1 kd n site a) D' W' K' h' (p + 2) (q + 2000)
theorem k_give (G : zG X) (I : sInv S cc) (R : zSt X F o S D W K h p q) (hp : p ≤ 500000 ∧ q ≤ 7000000) (hnb : sN S 23 0 < 512) (kd site : Int32) (n : Nat) (hn : n ≤ sN S 1 0) : ZM X MX4_give 7 290 [.ref (D 15 0), .int kd, .int (nI n), .int site] h (fun r h' => ∃ v, r = .inl v ∧ zGv X F o S D K kd n site p q v h') := by
  obtain ⟨I0, In, Ig, If, Ib, Iq, Ih, Im, c1, c2, c3, c4⟩ := id I
  have N2 := In.2.1
  have hch := sCh_b n
  have hrd : 16 ≤ sRed n ∧ sRed n ≤ 128 ∧ sRed n % 8 = 0 := by unfold sRed; split <;> (try split) <;> (try split) <;> omega
  obtain ⟨m, hm⟩ : ∃ m, sCh n = 16 * m := ⟨sCh n / 16, by omega⟩
  have A : zAl X h (D 16 0) (D 17 0) (W 16 0) (sN S 23 0) (K 17 0) (zes S D K 16 0) := zRel_al R.1 (r := 16) (i := 0) (Or.inl ⟨rfl, by decide⟩)
  refine zm_of_z G KX4_give rfl rfl ?_
  refine z_go 90 rfl ?_
  refine z_get (zRel_15 R.1) rfl rfl rfl rfl ?_
  refine z_cV A.1 (c_size (z := .null) G A.1) KJx4a65c_size_8abf5 IJx4a65c_size_8abf5 VJx4a65c_size_8abf5 rfl rfl rfl PJx4a65c_size_8abf5 rfl rfl rfl rfl ?_
  refine z_go 90 rfl ?_
  refine z_br rfl rfl (fun _ => ?_) (fun c => absurd ((n_lt (a := sN S 23 0) (b := 512) (by omega) (by decide)).mpr hnb) c)
  refine z_go 90 rfl ?_
  refine z_cS (c_chunk G n (by omega)) KX0_chunkBytesFor SX0_chunkBytesFor rfl rfl PX0_chunkBytesFor rfl rfl rfl rfl ?_
  refine z_go 90 rfl ?_
  refine z_div rfl (by decide) ?_
  refine z_go 90 rfl ?_
  rw [show nI (sCh n) / (16 : Int32) = nI m from by rw [hm]; exact (n_div (b := 16) (by omega) (by omega) (by omega)).trans (congrArg nI (by omega))]
  refine z_cVP (zRel_15 R.1) (k_unit G I R m (by omega) (by omega)) KX4_unitWithRoom IX4_unitWithRoom VX4_unitWithRoom rfl rfl rfl PX4_unitWithRoom rfl rfl rfl rfl ?_
  intro h1 P1
  obtain ⟨W1, R1⟩ := P1
  rw [← hm] at R1 ⊢
  obtain ⟨J1, J2, J3, J4⟩ := sMake_inv (n := sCh n) (sN S 25 0) S I rfl
  obtain ⟨S1, eS1⟩ : ∃ S1, S1 = (sMake (sCh n) (sN S 25 0) S).1 := ⟨_, rfl⟩
  rw [← eS1] at J1 J2 J3 J4 R1 ⊢
  have hpl := sPlace_r (m := m) J1 (by omega)
  rw [← hm] at hpl
  refine z_go 90 rfl ?_
  cases hr : zrun S1 m with
  | none =>
    rw [hr] at hpl
    refine z_br rfl rfl (fun c => absurd c (by first | decide | (dsimp only; decide))) (fun _ => ?_)
    refine z_go 90 rfl ?_
    exact z_aret (r := none) rfl rfl (Or.inl ⟨_, rfl⟩) ⟨_, rfl, Or.inl ⟨by rw [J2, hpl]; rfl, rfl, W1, by rw [← eS1]; exact R1⟩⟩
  | some i =>
    rw [hr] at hpl
    have hi := zrun_lt hr
    have hrn := (zFst_some.mp hr).2.1
    have hrn1 := hrn.1
    obtain ⟨a, ea⟩ : ∃ a, a = sN S1 1 0 / 4 + 16 * i := ⟨_, rfl⟩
    have hpl' : (sMake (sCh n) (sN S 25 0) S).2 = some a := by rw [J2, hpl, ea]; rfl
    have lim := zSt_lim R1 hp
    obtain ⟨nb, enb⟩ : ∃ nb, nb = sN S 23 0 := ⟨_, rfl⟩
    have enb1 : sN S1 23 0 = nb := by rw [J4, enb]
    have Mm1 := zRel_mem R1.1 J1.2.1
    have h15 := zRel_15 R1.1
    have A1 : zAl X h1 (D 16 0) (D 17 0) (W1 16 0) (sN S1 23 0) (K 17 0) (zes S1 D K 16 0) := zRel_al R1.1 (r := 16) (i := 0) (Or.inl ⟨rfl, by decide⟩)
    have hls : zls S1 16 0 := Or.inl ⟨rfl, by decide⟩
    have cap16 := R1.1.2.2 16 0 hls
    have cap17 : K 17 0 ≤ 1600 := cap16.2.2
    refine z_br rfl rfl (fun _ => ?_) (fun c => absurd c (zoI_m (by omega)))
    refine z_wf fun wf0 _ => ?_
    have wf : ∀ a e, h1.1 a = some e → a < h1.2.1 := fun a e he => (wf0 a e he).2
    have ne : ∀ a e e' k, h1.1 a = some e → (znew h1 e' k).1 a = some e := fun a e e' k he => by
      rw [znew_ne _ _ _ (by have := wf a e he; omega)]
      exact he
    refine z_new 1 (by decide) rfl rfl zn_1 ⟨by show h1.2.1 + 1 ≤ _; omega, by show h1.2.2 + 13 ≤ _; omega⟩ ?_
    refine z_go 90 rfl ?_
    refine z_get (ne _ _ _ _ h15) rfl rfl rfl rfl ?_
    refine z_cV (zAl_new A1 wf).1 (c_size (z := .null) G (zAl_new A1 wf).1) KJx4a65c_size_8abf5 IJx4a65c_size_8abf5 VJx4a65c_size_8abf5 rfl rfl rfl PJx4a65c_size_8abf5 rfl rfl rfl rfl ?_
    refine z_go 90 rfl ?_
    refine z_get (ne _ _ _ _ h15) rfl rfl rfl rfl ?_
    refine z_get (ne _ _ _ _ Mm1.1) rfl rfl rfl rfl ?_
    refine z_go 90 rfl ?_
    rw [show zoI (some i) * (16 : Int32) = nI (i * 16) from n_mul i 16, n_add, show sN S1 1 0 / 4 + i * 16 = a by omega]
    refine z_cI (c_initB G (znew_at _ _ _) (nI (sN S1 23 0)) kd site n a (by omega) (by omega)) KX0_init IX0_init rfl rfl rfl rfl rfl PX0_init rfl rfl rfl rfl ?_
    rw [zset_new]
    refine z_go 90 rfl ?_
    refine z_get (ne _ _ _ _ h15) rfl rfl rfl rfl ?_
    refine z_go 90 rfl ?_
    refine z_cV (zAl_new A1 wf).1 (c_add G (zAl_new A1 wf) (znew_at _ _ _) zk1 (zEl_new (zRel_el R1.1 J1 R1.2.2.1 hls) wf) (fun e => ⟨by show h1.2.1 + 1 + 1 ≤ _; omega, by show h1.2.2 + 13 + zgrow (K 17 0) ≤ _; have := zgrow_l (cap := K 17 0) (by omega); omega⟩)) KJx4a65c_add_9ea2d IJx4a65c_add_9ea2d VJx4a65c_add_9ea2d rfl rfl rfl PJx4a65c_add_9ea2d rfl rfl rfl rfl ?_
    refine z_go 90 rfl ?_
    have A2 : sN S1 23 0 ≤ K 17 0 := cap16.2.1
    obtain ⟨d', cap', hdc, w2⟩ := zW_push (X := X) (zW_new (zSt_W R1) wf 18 (sN S1 23 0) (.inr (1, zRgF 3 (nI (sN S1 23 0)) (a + sRed n) n site 0 [.int kd, .int (nI a), .int (nI (sCh n)), .int 0, .int 0, .int 0])) 13) (zwf_new wf) (r := 16) (i := 0) (n := sN S1 23 0) (cap := K 17 0) (b := h1.2.1) (mc := W1 16 0 + 1) (g := zes S1 D K 16 0) (Or.inl (Or.inl ⟨rfl, by decide⟩)) (fun c => Or.inl (Or.inl ⟨rfl, c⟩)) A2 (fun j hj => zes_none hj)
    have w3 := zW_put w2 (r := 21) (i := 0) (Or.inl (Or.inl (Or.inl ⟨rfl, by decide⟩))) (zBk X ((sN S1 1 0 - sN S1 1 0 / 4) / 16) (zOw (fun u => (zow S1 u).map (D 18)) i m (some h1.2.1)))
    have w4 := zW_put w3 (r := 15) (i := 0) (Or.inl (Or.inl (Or.inl ⟨rfl, by decide⟩))) (zHc S1 D (sLive S1 (sN S1 23 0) + 1) (sLiveB S1 (sN S1 23 0) + sCh n) (sHB S1))
    have v15 : zVa (zVa (zVF F S1 K) 18 (sN S1 23 0)) (16 + 1) 0 15 0 := Or.inl (Or.inl (Or.inl ⟨rfl, by decide⟩))
    have v1 : zVa (zVa (zVF F S1 K) 18 (sN S1 23 0)) (16 + 1) 0 1 0 := Or.inl (Or.inl (Or.inl ⟨rfl, by decide⟩))
    have v21 : zVa (zVa (zVF F S1 K) 18 (sN S1 23 0)) (16 + 1) 0 21 0 := Or.inl (Or.inl (Or.inl ⟨rfl, by decide⟩))
    have v18 : zVa (zVa (zVF F S1 K) 18 (sN S1 23 0)) (16 + 1) 0 18 (sN S1 23 0) := Or.inl (Or.inr ⟨rfl, rfl⟩)
    have x15 : (zPush X (znew h1 (.inr (1, zRgF 3 (nI (sN S1 23 0)) (a + sRed n) n site 0 [.int kd, .int (nI a), .int (nI (sCh n)), .int 0, .int 0, .int 0])) 13) (D 16 0) (D 17 0) (W1 16 0 + 1) (sN S1 23 0) (K 17 0) (zes S1 D K 16 0) h1.2.1).1 (D 15 0) = some (zHc S1 D (sLive S1 (sN S1 23 0)) (sLiveB S1 (sN S1 23 0)) (sHB S1)) := w2.1 15 0 v15
    have x1 := w2.1 1 0 v1
    have x21 := w2.1 21 0 v21
    have x18 := w2.1 18 (sN S1 23 0) v18
    have dn : u2 (u2 D 18 (sN S1 23 0) h1.2.1) (16 + 1) 0 d' 18 (sN S1 23 0) = h1.2.1 := u2_at D 18 (sN S1 23 0) h1.2.1
    rw [dn, u2_nr (show (18 : Nat) ≠ 16 by decide), u2_nr (show (18 : Nat) ≠ 16 + 1 by decide), u2_at] at x18
    have e18 : (Sum.inr (1, zRgF 3 (nI (sN S1 23 0)) (a + sRed n) n site 0 [.int kd, .int (nI a), .int (nI (sCh n)), .int 0, .int 0, .int 0]) : va_E) = .inr (1, zRgF 3 (nI (sN S1 23 0)) (a + sRed n) n site 0 [.int kd, .int (nI (sN S1 1 0 / 4 + 16 * i)), .int (nI (16 * m)), .int 0, .int 0, .int 0]) := by rw [ea, hm]
    refine z_cV x15 (c_setOw G x15 x1 (x18.trans (congrArg some e18)) x21 (by omega) (by omega) (by omega) (some h1.2.1) (Or.inr rfl)) KX4_setOwner IX4_setOwner VX4_setOwner rfl rfl rfl PX4_setOwner rfl rfl rfl rfl ?_
    refine z_go 90 rfl ?_
    have y15 := w3.1 15 0 v15
    refine z_get (show _ = some (zHc S1 D (sLive S1 (sN S1 23 0)) (sLiveB S1 (sN S1 23 0)) (sHB S1)) from y15) rfl rfl rfl rfl ?_
    refine z_go 90 rfl ?_
    rw [show nI (sLive S1 (sN S1 23 0)) + (1 : Int32) = nI (sLive S1 (sN S1 23 0) + 1) from n_succ _]
    refine z_put (show _ = some (zHc S1 D (sLive S1 (sN S1 23 0)) (sLiveB S1 (sN S1 23 0)) (sHB S1)) from y15) rfl rfl rfl rfl rfl rfl (by simp) ?_
    refine z_go 90 rfl ?_
    refine z_get (zset_at _ _ _) rfl rfl rfl rfl ?_
    refine z_go 90 rfl ?_
    have y18 := (zW_put w3 v15 (zHc S1 D (sLive S1 (sN S1 23 0) + 1) (sLiveB S1 (sN S1 23 0)) (sHB S1))).1 18 (sN S1 23 0) v18
    rw [dn, u2_nr (show (18 : Nat) ≠ 15 by decide), u2_nr (show (18 : Nat) ≠ 21 by decide), u2_nr (show (18 : Nat) ≠ 16 by decide), u2_nr (show (18 : Nat) ≠ 16 + 1 by decide), u2_at] at y18
    refine z_get y18 rfl rfl rfl rfl ?_
    refine z_go 90 rfl ?_
    rw [n_add]
    refine z_put (zset_at _ _ _) rfl rfl rfl rfl rfl rfl (by simp) ?_
    rw [zset_set]
    have z18 := w4.1 18 (sN S1 23 0) v18
    rw [dn, u2_nr (show (18 : Nat) ≠ 15 by decide), u2_nr (show (18 : Nat) ≠ 21 by decide), u2_nr (show (18 : Nat) ≠ 16 by decide), u2_nr (show (18 : Nat) ≠ 16 + 1 by decide), u2_at] at z18
    obtain ⟨D', W', K', g1, g2, g3, g4, R5⟩ := zSt_giv J1 R1 wf (by omega) kd site n m i (by omega) hm hrn
    rw [← ea] at R5
    have k5 := zRel_15 R5.1
    rw [g3, g4] at k5
    have In5 : sIn (sGiv0 S1 kd n site a) := J1.2.1
    have Mm5 := zRel_mem R5.1 In5
    rw [g3] at Mm5
    have l2 : D' 2 0 ≠ h1.2.1 := fun z => by
      have := (R5.1.2.1 2 0 18 (sN S1 23 0) ⟨rfl, by decide⟩ (show sN S1 23 0 < sN (sGiv0 S1 kd n site a) 23 0 by have e : sN (sGiv0 S1 kd n site a) 23 0 = sN S1 23 0 + 1 := n_toNat (by omega); omega) (by rw [g1]; exact z)).1
      omega
    have l3 : D' 3 0 ≠ h1.2.1 := fun z => by
      have := (R5.1.2.1 3 0 18 (sN S1 23 0) ⟨rfl, by decide⟩ (show sN S1 23 0 < sN (sGiv0 S1 kd n site a) 23 0 by have e : sN (sGiv0 S1 kd n site a) 23 0 = sN S1 23 0 + 1 := n_toNat (by omega); omega) (by rw [g1]; exact z)).1
      omega
    refine z_go 90 rfl ?_
    refine z_get k5 rfl rfl rfl rfl ?_
    refine z_go 90 rfl ?_
    refine z_get z18 rfl rfl rfl rfl ?_
    refine z_go 90 rfl ?_
    have e66 : (190 : Int32).toInt8.toInt32 = -66 := by decide
    have hN5 : sN (sGiv0 S1 kd n site a) 1 0 = sN S1 1 0 := rfl
    refine z_cV Mm5.1 (c_setBytes G Mm5 (nI (a + sRed n)) 190 n (Or.inr ⟨a + sRed n, rfl, by rw [hN5]; omega⟩)) KX6_setBytes IX6_setBytes VX6_setBytes rfl rfl rfl PX6_setBytes rfl rfl rfl rfl ?_
    rw [e66, n_toNat (n := a + sRed n) (by omega)]
    have R6 := zSt_B R5 (fun j => if a + sRed n ≤ j ∧ j < a + sRed n + n then -66 else sGiv0 S1 kd n site a 3 j)
    have k6 := zRel_15 R6.1
    rw [g3, g4] at k6
    have Mm6 := zRel_mem R6.1 In5
    rw [g3] at Mm6
    refine z_go 90 rfl ?_
    refine z_get k6 rfl rfl rfl rfl ?_
    refine z_go 90 rfl ?_
    refine z_get (show (zset _ (D' 2 0) _).1 h1.2.1 = _ by rw [zset_ne _ _ (Ne.symm l2)]; exact z18) rfl rfl rfl rfl ?_
    refine z_go 90 rfl ?_
    refine z_get (show (zset _ (D' 2 0) _).1 h1.2.1 = _ by rw [zset_ne _ _ (Ne.symm l2)]; exact z18) rfl rfl rfl rfl ?_
    refine z_go 90 rfl ?_
    refine z_cV Mm6.1 (c_paint G Mm6 a (sCh n) 250 (by show _ ≤ sN S1 1 0; omega)) KX6_paint IX6_paint VX6_paint rfl rfl rfl PX6_paint rfl rfl rfl rfl ?_
    have R7 := zSt_S R6 (gPaint (sGiv0 S1 kd n site a 4) a (a + sCh n) 250)
    have k7 := zRel_15 R7.1
    rw [g3, g4] at k7
    have Mm7 := zRel_mem R7.1 In5
    rw [g3] at Mm7
    refine z_go 90 rfl ?_
    refine z_get k7 rfl rfl rfl rfl ?_
    refine z_go 90 rfl ?_
    refine z_get (show (zset (zset _ (D' 2 0) _) (D' 3 0) _).1 h1.2.1 = _ by rw [zset_ne _ _ (Ne.symm l3), zset_ne _ _ (Ne.symm l2)]; exact z18) rfl rfl rfl rfl ?_
    refine z_go 90 rfl ?_
    refine z_cV Mm7.1 (c_open G Mm7 (a + sRed n) n (by show _ ≤ sN S1 1 0; omega) (by have := J1.2.1.2.2.1; omega)) KX6_open IX6_open VX6_open rfl rfl rfl PX6_open rfl rfl rfl rfl ?_
    refine z_go 90 rfl ?_
    refine z_aret (r := some h1.2.1) rfl rfl (Or.inl ⟨_, rfl⟩) ⟨_, rfl, Or.inr ⟨a, D', W', K', hpl', by rw [J4] at g1; rw [g1]; rfl, by rw [← J4]; exact g2, g3, g4, ?_⟩⟩
    rw [← eS1]
    exact zSt_S R7 _
end ZG2
