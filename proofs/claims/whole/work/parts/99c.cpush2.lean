theorem zM_mono {X : zCx} {M : zMI} {fr lo : Nat} {av : List Value} {h : zHp} {Q Q' : zRs → zHp → Prop} (hM : ZM X M fr lo av h Q) (hQ : ∀ r h', Q r h' → Q' r h') : ZM X M fr lo av h Q' := by
  unfold ZM at hM ⊢
  refine Jvm.Free.MetFree.imp hM ?_
  rintro _ _ _ _ ⟨r, h', q1, q2, q3⟩
  exact ⟨r, h', q1, hQ r h' q2, q3⟩
section ZPS
variable {X : zCx} {F : Nat → Option va_E} {o p q : Nat} {S Sf : zS} {D : Nat → Nat → Nat} {W : Nat → Nat → Int32} {K : Nat → Nat → Nat} {h : zHp} {cc b0 fr at' by' e m rA cap : Nat} {vA : Nat → Nat} {mc : Int32} {s : Nat → Nat} {t : zS × Nat × Nat}
theorem k_addVk (G : zG X) (I : sInv S cc) (R : zSt X F o S D W K h p q) (hp : p ≤ 500000 ∧ q ≤ 7000000) (hfr : sN S 14 0 = fr) (hlt : ∀ r i, zvd S K r i → D r i < b0) (hF : ∀ a e, F a = some e → a < b0) (k : Nat) (hk : k < 4) (hs : s k ≤ 128) (ht0 : t.2.1 = 0) (hnx : (sEntL s fr e t k).2.2 ≤ 10000) (B : zFb X (sEntL s fr e t k).1 b0 fr at' by' (sEntL s fr e t k).2.1 rA cap vA mc h) :
    ZM X MX2_addVariable 7 290 [.ref (D 8 0), .ref b0, .int (nI (sEntL s fr e t k).2.2), .int (nI (s k))] h (fun r h' => r = .inl (some (.int (nI (sEntL s fr e t (k + 1)).2.2))) ∧ ∃ rA' cap' vA' mc', zFb X (sEntL s fr e t (k + 1)).1 b0 fr at' by' (sEntL s fr e t (k + 1)).2.1 rA' cap' vA' mc' h' ∧ zSt X F o S D W K h' (p + 2) (q + 18)) := by
  by_cases c : s k = 0
  · rw [sEntL_0 c, c]
    refine zm_of_z G KX2_addVariable rfl rfl ?_
    refine z_go 90 rfl ?_
    refine z_br rfl rfl (fun _ => ?_) (fun c => absurd c (by first | decide | (dsimp only; decide)))
    refine z_go 90 rfl ?_
    refine z_cS (c_span G 0 (by omega)) KX2_spanOf SX2_spanOf rfl rfl PX2_spanOf rfl rfl rfl rfl ?_
    refine z_go 90 rfl ?_
    rw [n_add]
    exact z_iret rfl rfl ⟨rfl, rA, cap, vA, mc, B, zSt_le R (by omega) (by omega)⟩
  · rw [sEntL_1 c]
    have hm := (sEntL_f s fr e t k).2.2.1
    obtain ⟨g1, g2, -⟩ := sEnt1_g (sEntL s fr e t k).1 fr e (s k) (sEntL s fr e t k).2.1 (sEntL s fr e t k).2.2
    have hQ := k_addV1 (Sy := sEnt1 (sEntL s fr e t k).1 fr e (s k) (sEntL s fr e t k).2.1 (sEntL s fr e t k).2.2) G I R hp hfr hlt hF B (by omega) (sEntL s fr e t k).2.2 (s k) hnx (by omega) (fun j hj => by
      unfold sN
      rw [g1]
      by_cases d : j = (sEntL s fr e t k).2.1
      · rw [d, upd_at, if_pos rfl]
        exact n_toNat (by omega)
      · rw [upd_ne (by omega), if_neg d]) (fun j hj => by
      unfold sN
      rw [g2]
      by_cases d : j = (sEntL s fr e t k).2.1
      · rw [d, upd_at, if_pos rfl]
        exact n_toNat (by omega)
      · rw [upd_ne (by omega), if_neg d])
    exact zM_mono hQ (fun r h' P => by
      obtain ⟨P1, rA', cap', vA', P2, P3, -⟩ := P
      exact ⟨P1, rA', cap', vA', mc + 1, P2, P3⟩)
theorem k_push (G : zG X) (I : sInv S cc) (R : zSt X F o S D W K h p q) (hp : p + 100 ≤ 500000 ∧ q + 10000 ≤ 7000000) (a b c d : Nat) (hs : ∀ k, sSz a b c d k ≤ 128) (hnz : ∃ k, k < 4 ∧ sSz a b c d k ≠ 0) (hF : ∀ x e, F x = some e → x < h.2.1) : ZM X MX2_push 8 340 [.ref (D 8 0), .int (nI a), .int (nI b), .int (nI c), .int (nI d)] h (zPo X F o (some (.int (sEnterB S (sSz a b c d)).1)) (sEnterB S (sSz a b c d)).2 (p + 20) (q + 2500)) := by
  obtain ⟨I0, In, Ig, If, -⟩ := id I
  have f1 := If.1
  have N1 := In.1
  have N2 := In.2.1
  have N3 := In.2.2.1
  have lim := zSt_lim R (by omega)
  have h8 := R.1.1 8 0 ⟨rfl, by decide⟩
  have Mm := zRel_mem R.1 In
  have A : zAl X h (D 9 0) (D 10 0) (W 9 0) (sN S 14 0) (K 10 0) (zes S D K 9 0) := zRel_al R.1 (r := 9) (i := 0) (Or.inl ⟨rfl, by decide⟩)
  have hls : zls S 9 0 := Or.inl ⟨rfl, by decide⟩
  have sp : ∀ n, n ≤ 128 → sSp n ≤ 160 := fun n hn => by unfold sSp sPad; split <;> omega
  have ha := hs 0
  have hb := hs 1
  have hc := hs 2
  have hd := hs 3
  have ha : a ≤ 128 := ha
  have hb : b ≤ 128 := hb
  have hc : c ≤ 128 := hc
  have hd : d ≤ 128 := hd
  have pa := sp a ha
  have pb := sp b hb
  have pc := sp c hc
  have pd := sp d hd
  have hz : zSum (fun i => sSp (sSz a b c d i)) 4 = sSp a + sSp b + sSp c + sSp d := by
    show 0 + sSp a + sSp b + sSp c + sSp d = _
    omega
  have hfe : sFe S ≤ sN S 1 0 / 4 ∧ sFe S % 8 = 0 := by
    unfold sFe
    split
    · omega
    · have := If.2 (sN S 14 0 - 1) (by omega)
      omega
  obtain ⟨fr, efr⟩ : ∃ fr, sN S 14 0 = fr := ⟨_, rfl⟩
  refine zm_of_z G KX2_push rfl rfl ?_
  refine z_wf fun wf0 _ => ?_
  have wf : ∀ a e, h.1 a = some e → a < h.2.1 := fun a e he => (wf0 a e he).2
  refine z_go 90 rfl ?_
  refine z_cS (c_span G a (by omega)) KX2_spanOf SX2_spanOf rfl rfl PX2_spanOf rfl rfl rfl rfl ?_
  refine z_go 90 rfl ?_
  rw [show (32 : Int32) + nI (sSp a) = nI (32 + sSp a) from n_add 32 _]
  refine z_cS (c_span G b (by omega)) KX2_spanOf SX2_spanOf rfl rfl PX2_spanOf rfl rfl rfl rfl ?_
  refine z_go 90 rfl ?_
  rw [n_add]
  refine z_cS (c_span G c (by omega)) KX2_spanOf SX2_spanOf rfl rfl PX2_spanOf rfl rfl rfl rfl ?_
  refine z_go 90 rfl ?_
  rw [n_add]
  refine z_cS (c_span G d (by omega)) KX2_spanOf SX2_spanOf rfl rfl PX2_spanOf rfl rfl rfl rfl ?_
  refine z_go 90 rfl ?_
  rw [n_add, show 32 + sSp a + sSp b + sSp c + sSp d = 32 + zSum (fun i => sSp (sSz a b c d i)) 4 by rw [hz]; omega]
  refine z_cV h8 (k_count G I R.1) KX2_count IX2_count VX2_count rfl rfl rfl PX2_count rfl rfl rfl rfl ?_
  have main : Z X MX2_push (8, 340, h.2.1, h.2.2) h 73 [some (.ref (D 8 0)), some (.int (nI a)), some (.int (nI b)), some (.int (nI c)), some (.int (nI d)), some (.int (nI (32 + zSum (fun i => sSp (sSz a b c d i)) 4))), some (.int (nI (sFe S))), some (.int (nI (sFe S) - nI (32 + zSum (fun i => sSp (sSz a b c d i)) 4))), none, none] [.ref (D 8 0), .int (nI (sFe S) - nI (32 + zSum (fun i => sSp (sSz a b c d i)) 4))] (zPo X F o (some (.int (sEnterB S (sSz a b c d)).1)) (sEnterB S (sSz a b c d)).2 (p + 20) (q + 2500)) := by
    have t1 := i_nI (n := sFe S) (by omega)
    have t2 := i_nI (n := 32 + zSum (fun i => sSp (sSz a b c d i)) 4) (by omega)
    have t3 := i_nI (n := sN S 1 0 / 8) (by omega)
    have ts := i_sub (x := nI (sFe S)) (y := nI (32 + zSum (fun i => sSp (sSz a b c d i)) 4)) (by omega) (by omega)
    refine z_get h8 rfl rfl rfl rfl ?_
    refine z_get Mm.1 rfl rfl rfl rfl ?_
    refine z_br rfl rfl (fun cc1 => ?_) (fun cc1 => ?_) <;> (try dsimp only at cc1)
    · rw [i_le, ts, t1, t2, t3] at cc1
      have hnl : ¬ sFe S < 32 + zSum (fun i => sSp (sSz a b c d i)) 4 + sN S 1 0 / 8 := by omega
      rw [show sEnterB S (sSz a b c d) = _ from if_neg hnl]
      rw [n_sub (show 32 + zSum (fun i => sSp (sSz a b c d i)) 4 ≤ sFe S by omega) (by omega)]
      obtain ⟨by', eby⟩ : ∃ y, y = 32 + zSum (fun i => sSp (sSz a b c d i)) 4 := ⟨_, rfl⟩
      rw [← eby] at cc1 hnl ⊢
      obtain ⟨at', eat⟩ : ∃ y, y = sFe S - by' := ⟨_, rfl⟩
      rw [← eat]
      obtain ⟨e, ee⟩ : ∃ y, y = sFe S := ⟨_, rfl⟩
      rw [← ee] at eat cc1 hnl hfe ⊢
      obtain ⟨s, es⟩ : ∃ s, s = sSz a b c d := ⟨_, rfl⟩
      rw [← es] at hs hnz eby ⊢
      rw [efr]
      obtain ⟨t, et⟩ : ∃ t : zS × Nat × Nat, t = (sPaint (zV (zV S 8 (upd (S 8) fr (nI at'))) 9 (upd (S 9) fr (nI e))) at' (at' + 32) 241, 0, at' + 32) := ⟨_, rfl⟩
      rw [← et]
      have ht0 : t.2.1 = 0 := by rw [et]
      have ht2 : t.2.2 = at' + 32 := by rw [et]
      have nx : ∀ k, (sEntL s fr e t k).2.2 = at' + 32 + zSum (fun i => sSp (s i)) k := fun k => by rw [(sEntL_f s fr e t k).2.2.2, ht2]
      have zm : ∀ k, k ≤ 4 → zSum (fun i => sSp (s i)) k ≤ 160 * k := fun k _ => by
        have := zSum_le (g := fun i => sSp (s i)) (b := 160) (fun i => sp _ (hs i)) k
        omega
      have hte : (sEntL s fr e t 4).2.2 = e := by rw [nx]; omega
      have hM : 1 ≤ (sEntL s fr e t 4).2.1 := by
        obtain ⟨k, hk, hk0⟩ := hnz
        have := sEntL_m (s := s) (fr := fr) (e := e) (t := t) (k + 1) (3 - k)
        rw [show k + 1 + (3 - k) = 4 by omega, sEntL_1 hk0] at this
        have := this.1
        dsimp only at this
        omega
      have hM4 : (sEntL s fr e t 4).2.1 ≤ 4 := by have := (sEntL_f s fr e t 4).2.2.1; omega
      obtain ⟨r1, r2, r3⟩ := sEntL_r (s := s) (fr := fr) (e := e) (t := t) 4
      obtain ⟨t0, hD⟩ := zDef_ex G
      refine z_go 90 rfl ?_
      refine z_new 2 (by decide) rfl rfl zn_2 ⟨by show h.2.1 + 1 ≤ _; omega, by show h.2.2 + 3 ≤ _; omega⟩ ?_
      refine z_go 90 rfl ?_
      refine z_cI (c_initF G hD (nI at') (nI by') (znew_at _ _ _) rfl ⟨by show h.2.1 + 1 + 1 ≤ _; omega, by show h.2.2 + 3 + 3 ≤ _; omega⟩) KX1_init IX1_init rfl rfl rfl rfl rfl PX1_init rfl rfl rfl rfl ?_
      obtain ⟨b0, eb0⟩ : ∃ b0, b0 = h.2.1 := ⟨_, rfl⟩
      have hlt : ∀ r i, zvd S K r i → D r i < b0 := fun r i v => by
        have := wf _ _ (R.1.1 r i v)
        omega
      have hF' : ∀ x e, F x = some e → x < b0 := fun x e he => by rw [eb0]; exact hF x e he
      obtain ⟨h2, eh2⟩ : ∃ h2, h2 = zset (znew (znew h (.inr (2, [.int 0, .int 0, .null])) 3) (zLc 0 t0 0) 3) b0 (.inr (2, [.int (nI at'), .int (nI by'), .ref (b0 + 1)])) := ⟨_, rfl⟩
      rw [← eb0, show (zcl 2).2.2.1 = 3 from rfl, ← eh2]
      have ag2 : ∀ x, x < b0 → h2.1 x = h.1 x := fun x hx => by
        rw [eh2, zset_ne _ _ (by omega), znew_ne _ _ _ (by show x ≠ h.2.1 + 1; omega), znew_ne _ _ _ (by omega)]
      have R2 : zSt X F o S D W K h2 (p + 2) (q + 6) := zSt_fr R hlt hF' ag2 (by rw [eh2]; exact Nat.le_refl _) (by rw [eh2]; exact Nat.le_refl _)
      have B0 : zFb X (sEntL s fr e t 0).1 b0 fr at' by' (sEntL s fr e t 0).2.1 t0 0 (fun _ => 0) 0 h2 := by
        rw [show (sEntL s fr e t 0).2.1 = 0 from ht0]
        refine ⟨by rw [eh2, zset_at], ?_, Or.inl ⟨rfl, hD⟩, Nat.le_refl _, fun j hj => by omega, fun i j hi => by omega⟩
        rw [eh2, zset_ne _ _ (by omega)]
        rw [eb0]
        exact znew_at _ _ _
      have hA : ∀ k, k ≤ 4 → (sEntL s fr e t k).2.2 ≤ 10000 := fun k hk => by
        rw [nx]
        have := zm k hk
        omega
      have n0 : nI at' + (32 : Int32) = nI (sEntL s fr e t 0).2.2 := by
        rw [show (sEntL s fr e t 0).2.2 = at' + 32 from ht2]
        exact n_add _ 32
      have sa : nI a = nI (s 0) := by rw [es]; rfl
      have sb : nI b = nI (s 1) := by rw [es]; rfl
      have sc : nI c = nI (s 2) := by rw [es]; rfl
      have sd : nI d = nI (s 3) := by rw [es]; rfl
      have q8 := R2.1.1 8 0 ⟨rfl, by decide⟩
      refine z_go 90 rfl ?_
      rw [n0, sa, sb, sc, sd]
      refine z_cVP q8 (k_addVk G I R2 (by omega) efr hlt hF' 0 (by omega) (hs 0) ht0 (hA 0 (by omega)) B0) KX2_addVariable IX2_addVariable VX2_addVariable rfl rfl rfl PX2_addVariable rfl rfl rfl rfl ?_
      intro g1 P1
      obtain ⟨rA1, cap1, vA1, mc1, B1, R3⟩ := P1
      have q8 := R3.1.1 8 0 ⟨rfl, by decide⟩
      refine z_go 90 rfl ?_
      refine z_cVP q8 (k_addVk G I R3 (by omega) efr hlt hF' 1 (by omega) (hs 1) ht0 (hA 1 (by omega)) B1) KX2_addVariable IX2_addVariable VX2_addVariable rfl rfl rfl PX2_addVariable rfl rfl rfl rfl ?_
      intro g2 P2
      obtain ⟨rA2, cap2, vA2, mc2, B2, R4⟩ := P2
      have q8 := R4.1.1 8 0 ⟨rfl, by decide⟩
      refine z_go 90 rfl ?_
      refine z_cVP q8 (k_addVk G I R4 (by omega) efr hlt hF' 2 (by omega) (hs 2) ht0 (hA 2 (by omega)) B2) KX2_addVariable IX2_addVariable VX2_addVariable rfl rfl rfl PX2_addVariable rfl rfl rfl rfl ?_
      intro g3 P3
      obtain ⟨rA3, cap3, vA3, mc3, B3, R5⟩ := P3
      have q8 := R5.1.1 8 0 ⟨rfl, by decide⟩
      refine z_go 90 rfl ?_
      refine z_cVP q8 (k_addVk G I R5 (by omega) efr hlt hF' 3 (by omega) (hs 3) ht0 (hA 3 (by omega)) B3) KX2_addVariable IX2_addVariable VX2_addVariable rfl rfl rfl PX2_addVariable rfl rfl rfl rfl ?_
      intro g4 P4
      obtain ⟨rA4, cap4, vA4, mc4, B4, R6⟩ := P4
      have q8 := R6.1.1 8 0 ⟨rfl, by decide⟩
      have lim6 := zSt_lim R6 (by omega)
      have A6 : zAl X g4 (D 9 0) (D 10 0) (W 9 0) (sN S 14 0) (K 10 0) (zes S D K 9 0) := zRel_al R6.1 (r := 9) (i := 0) hls
      rw [efr] at A6
      have cap6 : K 10 0 ≤ 1600 := (R6.1.2.2 9 0 hls).2.2
      refine z_wf fun wg0 _ => ?_
      have wg : ∀ a e, g4.1 a = some e → a < g4.2.1 := fun a e he => (wg0 a e he).2
      refine z_go 90 rfl ?_
      refine z_get q8 rfl rfl rfl rfl ?_
      refine z_go 90 rfl ?_
      refine z_cV A6.1 (c_add G A6 B4.1 zk2 (zRel_el R6.1 I R6.2.2.1 hls) (fun e => ⟨by show g4.2.1 + 1 ≤ _; omega, by show g4.2.2 + zgrow (K 10 0) ≤ _; have := zgrow_l (cap := K 10 0) (by omega); omega⟩)) KJx4a65c_add_9ea2d IJx4a65c_add_9ea2d VJx4a65c_add_9ea2d rfl rfl rfl PJx4a65c_add_9ea2d rfl rfl rfl rfl ?_
      obtain ⟨Sf, eSf⟩ : ∃ Sf, Sf = zV (zV (sEntL s fr e t 4).1 14 (fun _ => nI (fr + 1))) 10 (upd ((sEntL s fr e t 4).1 10) fr (nI (sEntL s fr e t 4).2.1)) := ⟨_, rfl⟩
      rw [← eSf]
      have z7 : ∀ k, Nat.beq k 4 = false → Nat.beq k 11 = false → Nat.beq k 12 = false → Nat.beq k 13 = false → Nat.beq k 14 = false → Nat.beq k 10 = false → Sf k = t.1 k := fun k a1 a2 a3 a4 a5 a6 => by
        rw [eSf]
        simp only [zV, a5, a6]
        exact r2 k ⟨a1, a2, a3, a4, trivial⟩
      have x14 : sN Sf 14 0 = fr + 1 := by
        rw [eSf]
        show (nI (fr + 1)).toInt.toNat = _
        exact n_toNat (by omega)
      have x10 : Sf 10 = upd (S 10) fr (nI (sEntL s fr e t 4).2.1) := by
        rw [eSf]
        show upd ((sEntL s fr e t 4).1 10) fr _ = _
        rw [r2 10 ⟨rfl, rfl, rfl, rfl, trivial⟩, et]
        rfl
      have x8 : Sf 8 = upd (S 8) fr (nI at') := by
        rw [z7 8 rfl rfl rfl rfl rfl rfl, et]
        rfl
      have x9 : Sf 9 = upd (S 9) fr (nI e) := by
        rw [z7 9 rfl rfl rfl rfl rfl rfl, et]
        rfl
      have x11 : Sf 11 = (sEntL s fr e t 4).1 11 := by rw [eSf]; rfl
      have x12 : Sf 12 = (sEntL s fr e t 4).1 12 := by rw [eSf]; rfl
      have x13 : Sf 13 = (sEntL s fr e t 4).1 13 := by rw [eSf]; rfl
      have x4 : Sf 4 = (sEntL s fr e t 4).1 4 := by rw [eSf]; rfl
      have t11 : t.1 11 = S 11 := by rw [et]; rfl
      have t12 : t.1 12 = S 12 := by rw [et]; rfl
      have t13 : t.1 13 = S 13 := by rw [et]; rfl
      have hN : sN Sf 1 0 = sN S 1 0 := by
        unfold sN
        rw [z7 1 rfl rfl rfl rfl rfl rfl, et]
        rfl
      have hSo : ∀ k, zno [8, 9, 10, 11, 12, 13, 14] k → zV Sf 4 (S 4) k = S k := fun k ⟨a1, a2, a3, a4, a5, a6, a7, _⟩ => by
        by_cases k4 : k = 4
        · rw [k4, zV_at]
        · rw [zV_ne _ _ k4, z7 k (nb_ne k4) a4 a5 a6 a7 a3, et]
          simp only [sPaint, zV, a1, a2, nb_ne k4]
      obtain ⟨D', W', K', d1, d8, d11, R7⟩ := zSt_ent (S' := zV Sf 4 (S 4)) I R6 efr hlt hF' wg B4 ⟨hM, hM4⟩ hSo (fun i hi => by
        show (Sf 8 i).toInt.toNat = _
        rw [x8]
        exact sN_upd (by omega)) (fun i hi => by
        show (Sf 9 i).toInt.toNat = _
        rw [x9, show e = at' + by' by omega]
        exact sN_upd (by omega)) (fun i hi => by
        show (Sf 10 i).toInt.toNat = _
        rw [x10]
        exact sN_upd (by omega)) x14 (fun i hi => by
        show Sf 11 i = _
        rw [x11, (r1 i hi).1, t11]) (fun i hi => by
        show Sf 12 i = _
        rw [x12, (r1 i hi).2.1, t12]) (fun i hi => by
        show Sf 13 i = _
        rw [x13, (r1 i hi).2.2, t13]) (fun j hj => by
        show (Sf 11 _).toInt.toNat = _
        rw [x11]
        rfl) (fun j hj => by
        show (Sf 12 _).toInt.toNat = _
        rw [x12]
        rfl) (fun j hj => by
        show (Sf 13 _).toInt.toNat = _
        rw [x13, r3 ht0 j hj]
        rfl)
      have In' : sIn Sf := by
        have s1 : Sf 1 = S 1 := by rw [z7 1 rfl rfl rfl rfl rfl rfl, et]; rfl
        have s2 : Sf 2 = S 2 := by rw [z7 2 rfl rfl rfl rfl rfl rfl, et]; rfl
        unfold sIn sN
        rw [s1, s2]
        exact In
      have k8 := R7.1.1 8 0 ⟨rfl, by decide⟩
      rw [d8] at k8
      have pf := k_paintF (t := t) (s := s) (e := e) (at' := at') G In' x14 (by omega) (fun k _ => hs k) ht0 hte (by omega) (by have := sSp_m s 4; rw [ht2]; omega) hM (by
        show (Sf 10 fr).toInt.toNat = _
        rw [x10, upd_at]
        exact n_toNat (by omega)) x11 x12 x4 (by
        show (Sf 8 fr).toInt.toNat = _
        rw [x8, upd_at]
        exact n_toNat (by omega)) (by omega) (g0 := S 4) (by rw [et]; rfl) R7
      rw [d8, d11] at pf
      refine z_go 90 rfl ?_
      refine z_cVP k8 pf KX2_paintFrame IX2_paintFrame VX2_paintFrame rfl rfl rfl PX2_paintFrame rfl rfl rfl rfl ?_
      intro g5 P5
      refine z_go 90 rfl ?_
      exact z_iret rfl rfl ⟨rfl, D', W', K', zSt_le P5 (by omega) (by omega)⟩
    · rw [i_le, ts, t1, t2, t3] at cc1
      rw [show sEnterB S (sSz a b c d) = (-1, S) from if_pos (by omega)]
      refine z_go 90 rfl ?_
      exact z_iret rfl rfl ⟨rfl, D, W, K, zSt_le R (by omega) (by omega)⟩
  refine z_ite (p := sN S 14 0 = 0) (fun e => ?_) (fun e => ?_)
  · rw [show sFe S = sN S 1 0 / 4 from if_pos e] at main
    rw [e]
    refine z_br rfl rfl (fun c => absurd rfl c) (fun _ => ?_)
    refine z_go 90 rfl ?_
    refine z_get h8 rfl rfl rfl rfl ?_
    refine z_get Mm.1 rfl rfl rfl rfl ?_
    refine z_go 90 rfl ?_
    exact main
  · rw [show sFe S = sN S 8 (sN S 14 0 - 1) from if_neg e] at main
    refine z_br rfl rfl (fun _ => ?_) (fun c => absurd c (by
      show ¬ nI (sN S 14 0) = nI 0
      exact fun z => e ((n_eq (by omega) (by omega)).mp z)))
    have hfr := R.1.1 11 (sN S 14 0 - 1) (show sN S 14 0 - 1 < sN S 14 0 by omega)
    refine z_go 90 rfl ?_
    refine z_get h8 rfl rfl rfl rfl ?_
    refine z_go 90 rfl ?_
    refine z_cV h8 (k_count G I R.1) KX2_count IX2_count VX2_count rfl rfl rfl PX2_count rfl rfl rfl rfl ?_
    refine z_go 90 rfl ?_
    rw [show nI (sN S 14 0) - (1 : Int32) = nI (sN S 14 0 - 1) from n_sub (b := 1) (by omega) (by omega)]
    refine z_cV A.1 (c_get G (b := D 11 (sN S 14 0 - 1)) (sN S 14 0 - 1) A (i_nI (by omega)) (by omega) (if_pos (by show sN S 14 0 - 1 < sN S 14 0; omega))) KJx4a65c_get_915e3 IJx4a65c_get_915e3 VJx4a65c_get_915e3 rfl rfl rfl PJx4a65c_get_915e3 rfl rfl rfl rfl ?_
    refine z_cast hfr rfl rfl (by decide +kernel) ?_
    refine z_get hfr rfl rfl rfl rfl ?_
    refine z_go 90 rfl ?_
    exact main
end ZPS
