section ZPF
variable {X : zCx} {F : Nat → Option va_E} {o p q : Nat} {S Sf : zS} {D : Nat → Nat → Nat} {W : Nat → Nat → Int32} {K : Nat → Nat → Nat} {h : zHp} {cc b0 fr at' by' e m rA cap : Nat} {vA : Nat → Nat} {mc : Int32} {s : Nat → Nat} {t : zS × Nat × Nat}
theorem zV_self (S : zS) (k : Nat) : zV S k (S k) = S := by
  funext k2
  by_cases c : k2 = k
  · rw [c, zV_at]
  · rw [zV_ne _ _ c]
theorem zV_twice (S : zS) (k : Nat) (g g' : Nat → Int32) : zV (zV S k g) k g' = zV S k g' := by
  funext k2
  by_cases c : k2 = k
  · rw [c, zV_at, zV_at]
  · rw [zV_ne _ _ c, zV_ne _ _ c, zV_ne _ _ c]
theorem k_paintF (G : zG X) (In : sIn Sf) (h14 : sN Sf 14 0 = fr + 1) (hfr9 : fr ≤ 1000) (hs : ∀ k, k < 4 → s k ≤ 128) (ht0 : t.2.1 = 0) (hte : (sEntL s fr e t 4).2.2 = e) (he2 : e ≤ sN Sf 1 0) (ht8 : t.2.2 % 8 = 0) (hM : 1 ≤ (sEntL s fr e t 4).2.1) (h10 : sN Sf 10 fr = (sEntL s fr e t 4).2.1) (h11 : Sf 11 = (sEntL s fr e t 4).1 11) (h12 : Sf 12 = (sEntL s fr e t 4).1 12) (h4 : Sf 4 = (sEntL s fr e t 4).1 4) (h8 : sN Sf 8 fr = at') (hat : at' + 32 ≤ sN Sf 1 0) {g0 : Nat → Int32} (hg : t.1 4 = gPaint g0 at' (at' + 32) 241) (R : zSt X F o (zV Sf 4 g0) D W K h p q) : ZM X MX2_paintFrame 3 190 [.ref (D 8 0), .ref (D 11 fr)] h (fun r h' => r = .inl none ∧ zSt X F o Sf D W K h' p q) := by
  have N2 := In.2.1
  have M4 : (sEntL s fr e t 4).2.1 ≤ 4 := by have := (sEntL_f s fr e t 4).2.2.1; omega
  have step : ∀ k, k ≤ 4 → ∀ (g : zHp) (o4 o5 : Option Value), zSt X F o (zV Sf 4 ((sEntL s fr e t k).1 4)) D W K g p q → Z X MX2_paintFrame (3, 190, h.2.1, h.2.2) g 30 [some (.ref (D 8 0)), some (.ref (D 11 fr)), some (.int (nI ((sEntL s fr e t 4).2.1 - 1))), some (.int (nI (sEntL s fr e t k).2.1)), o4, o5] [.int (nI ((sEntL s fr e t 4).2.1 - 1)), .int (nI (sEntL s fr e t k).2.1)] (fun r h' => r = .inl none ∧ zSt X F o Sf D W K h' p q) := by
    refine zdown (P := fun k => ∀ (g : zHp) (o4 o5 : Option Value), zSt X F o (zV Sf 4 ((sEntL s fr e t k).1 4)) D W K g p q → Z X MX2_paintFrame (3, 190, h.2.1, h.2.2) g 30 [some (.ref (D 8 0)), some (.ref (D 11 fr)), some (.int (nI ((sEntL s fr e t 4).2.1 - 1))), some (.int (nI (sEntL s fr e t k).2.1)), o4, o5] [.int (nI ((sEntL s fr e t 4).2.1 - 1)), .int (nI (sEntL s fr e t k).2.1)] (fun r h' => r = .inl none ∧ zSt X F o Sf D W K h' p q)) 4 (fun k hk ih g o4 o5 Rg => ?_)
    have mk := (sEntL_m (s := s) (fr := fr) (e := e) (t := t) k (4 - k))
    rw [show k + (4 - k) = 4 by omega] at mk
    by_cases k4 : k = 4
    · rw [k4] at Rg ⊢
      rw [← h4, zV_self] at Rg
      refine z_br rfl rfl (fun _ => ?_) (fun c => absurd ((n_lt (by omega) (by omega)).mpr (show (sEntL s fr e t 4).2.1 - 1 < (sEntL s fr e t 4).2.1 by omega)) c)
      exact z_vret rfl rfl ⟨rfl, Rg⟩
    · have ih := ih (by omega)
      by_cases c0 : s k = 0
      · rw [sEntL_0 c0] at ih
        exact ih g o4 o5 Rg
      · have sk := hs k (by omega)
        have hpd : s k ≤ sPad (s k) ∧ sPad (s k) ≤ 160 := by unfold sPad; omega
        have e1 := sEntL_1 (s := s) (fr := fr) (e := e) (t := t) c0
        have mk1 := sEntL_m (s := s) (fr := fr) (e := e) (t := t) (k + 1) (3 - k)
        rw [show k + 1 + (3 - k) = 4 by omega] at mk1
        rw [e1] at mk1 ih
        dsimp only at mk1 ih
        obtain ⟨g1, g2, g3, g4, -⟩ := sEnt1_g (sEntL s fr e t k).1 fr e (s k) (sEntL s fr e t k).2.1 (sEntL s fr e t k).2.2
        have nx8 : (sEntL s fr e t k).2.2 % 8 = 0 := by
          have := (sEntL_f s fr e t k).2.2.2
          have := sSp_m s k
          omega
        have nxe : (sEntL s fr e t k).2.2 + sPad (s k) ≤ e := by
          by_cases z : (sEntL s fr e t 4).2.1 = (sEntL s fr e t k).2.1 + 1
          · have := mk1.2.2.1 z
            omega
          · have := mk1.2.2.2 (by omega)
            omega
        have last : (sEntL s fr e t k).2.1 = (sEntL s fr e t 4).2.1 - 1 ↔ (sEntL s fr e t k).2.2 + sPad (s k) = e := by
          constructor
          · intro z
            have := mk1.2.2.1 (by omega)
            omega
          · intro z
            by_cases z2 : (sEntL s fr e t 4).2.1 = (sEntL s fr e t k).2.1 + 1
            · omega
            · have := mk1.2.2.2 (by omega)
              omega
        have mle := mk1.1
        have vv := mk1.2.1 (4 * fr + (sEntL s fr e t k).2.1) (by omega)
        rw [g1, g2, upd_at, upd_at] at vv
        have a11 : sN (zV Sf 4 ((sEntL s fr e t k).1 4)) 11 (4 * fr + (sEntL s fr e t k).2.1) = (sEntL s fr e t k).2.2 := by
          show (Sf 11 _).toInt.toNat = _
          rw [h11, vv.1]
          exact n_toNat (by omega)
        have a12 : sN (zV Sf 4 ((sEntL s fr e t k).1 4)) 12 (4 * fr + (sEntL s fr e t k).2.1) = s k := by
          show (Sf 12 _).toInt.toNat = _
          rw [h12, vv.2.1]
          exact n_toNat (by omega)
        have hv14 : zvd (zV Sf 4 ((sEntL s fr e t k).1 4)) K 14 (4 * fr + (sEntL s fr e t k).2.1) := by
          refine ⟨?_, ?_⟩
          · show _ < 4 * sN Sf 14 0
            omega
          · rw [show (4 * fr + (sEntL s fr e t k).2.1) % 4 = (sEntL s fr e t k).2.1 by omega, show (4 * fr + (sEntL s fr e t k).2.1) / 4 = fr by omega]
            show _ < sN Sf 10 fr
            omega
        have x14 := Rg.1.1 14 _ hv14
        have x11 := Rg.1.1 11 fr (show fr < sN Sf 14 0 by omega)
        have x8 := Rg.1.1 8 0 ⟨rfl, by decide⟩
        have Al : zAl X g (D 12 fr) (D 13 fr) (W 12 fr) (sN Sf 10 fr) (K 13 fr) (zes (zV Sf 4 ((sEntL s fr e t k).1 4)) D K 12 fr) := zRel_al Rg.1 (r := 12) (i := fr) (Or.inr ⟨rfl, show fr < sN Sf 14 0 by omega⟩)
        have Mm := zRel_mem Rg.1 In
        have fin : ∀ ab : Int32, ab = (if (sEntL s fr e t k).2.2 + sPad (s k) = e then 243 else 242) → Z X MX2_paintFrame (3, 190, h.2.1, h.2.2) g 63 [some (.ref (D 8 0)), some (.ref (D 11 fr)), some (.int (nI ((sEntL s fr e t 4).2.1 - 1))), some (.int (nI (sEntL s fr e t k).2.1)), some (.ref (D 14 (4 * fr + (sEntL s fr e t k).2.1))), some (.int ab)] [.ref (D 8 0)] (fun r h' => r = .inl none ∧ zSt X F o Sf D W K h' p q) := by
          intro ab hab
          refine z_get x8 rfl rfl rfl rfl ?_
          refine z_go 90 rfl ?_
          refine z_get x14 rfl rfl rfl rfl ?_
          refine z_go 90 rfl ?_
          refine z_get x14 rfl rfl rfl rfl ?_
          rw [a11, a12]
          refine z_cS (c_span G (s k) (by omega)) KX2_spanOf SX2_spanOf rfl rfl PX2_spanOf rfl rfl rfl rfl ?_
          rw [show sSp (s k) = sPad (s k) from if_neg c0]
          refine z_go 90 rfl ?_
          refine z_cV Mm.1 (c_paint G Mm (sEntL s fr e t k).2.2 (sPad (s k)) ab (by show _ ≤ sN Sf 1 0; omega)) KX6_paint IX6_paint VX6_paint rfl rfl rfl PX6_paint rfl rfl rfl rfl ?_
          have R1 := zSt_S Rg (gPaint ((sEntL s fr e t k).1 4) (sEntL s fr e t k).2.2 ((sEntL s fr e t k).2.2 + sPad (s k)) ab)
          rw [zV_twice] at R1
          have y14 := R1.1.1 14 _ hv14
          have y8 := R1.1.1 8 0 ⟨rfl, by decide⟩
          have Mm1 := zRel_mem R1.1 In
          have b11 : sN (zV Sf 4 (gPaint ((sEntL s fr e t k).1 4) (sEntL s fr e t k).2.2 ((sEntL s fr e t k).2.2 + sPad (s k)) ab)) 11 (4 * fr + (sEntL s fr e t k).2.1) = (sEntL s fr e t k).2.2 := a11
          have b12 : sN (zV Sf 4 (gPaint ((sEntL s fr e t k).1 4) (sEntL s fr e t k).2.2 ((sEntL s fr e t k).2.2 + sPad (s k)) ab)) 12 (4 * fr + (sEntL s fr e t k).2.1) = s k := a12
          refine z_go 90 rfl ?_
          refine z_get y8 rfl rfl rfl rfl ?_
          refine z_go 90 rfl ?_
          refine z_get y14 rfl rfl rfl rfl ?_
          refine z_go 90 rfl ?_
          refine z_get y14 rfl rfl rfl rfl ?_
          rw [b11, b12]
          refine z_cV Mm1.1 (c_open G Mm1 (sEntL s fr e t k).2.2 (s k) (by show _ ≤ sN Sf 1 0; omega) nx8) KX6_open IX6_open VX6_open rfl rfl rfl PX6_open rfl rfl rfl rfl ?_
          have R2 := zSt_S R1 (gOpen (gPaint ((sEntL s fr e t k).1 4) (sEntL s fr e t k).2.2 ((sEntL s fr e t k).2.2 + sPad (s k)) ab) (sEntL s fr e t k).2.2 (s k))
          rw [zV_twice] at R2
          refine z_go 90 rfl ?_
          rw [show nI (sEntL s fr e t k).2.1 + (1 : Int32) = nI ((sEntL s fr e t k).2.1 + 1) from n_succ _]
          exact ih _ _ _ (by rw [g4, ← hab]; exact R2)
        refine z_br rfl rfl (fun c => absurd c (by
          show ¬ nI ((sEntL s fr e t 4).2.1 - 1) < nI (sEntL s fr e t k).2.1
          rw [n_lt (by omega) (by omega)]
          omega)) (fun _ => ?_)
        refine z_go 90 rfl ?_
        refine z_get x11 rfl rfl rfl rfl ?_
        refine z_go 90 rfl ?_
        refine z_cV Al.1 (c_get G (b := D 14 (4 * fr + (sEntL s fr e t k).2.1)) (sEntL s fr e t k).2.1 Al (i_nI (by omega)) (by omega) (if_pos (by show _ < sN Sf 10 fr; omega))) KJx4a65c_get_915e3 IJx4a65c_get_915e3 VJx4a65c_get_915e3 rfl rfl rfl PJx4a65c_get_915e3 rfl rfl rfl rfl ?_
        refine z_cast x14 rfl rfl (by decide +kernel) ?_
        refine z_go 90 rfl ?_
        refine z_ite (p := (sEntL s fr e t k).2.1 = (sEntL s fr e t 4).2.1 - 1) (fun hl => ?_) (fun hl => ?_)
        · refine z_br rfl rfl (fun c => absurd (congrArg nI hl) c) (fun _ => ?_)
          refine z_go 90 rfl ?_
          exact fin 243 (by rw [if_pos (last.mp hl)])
        · refine z_br rfl rfl (fun _ => ?_) (fun c => absurd c (by
            show ¬ nI (sEntL s fr e t k).2.1 = nI ((sEntL s fr e t 4).2.1 - 1)
            rw [n_eq (by omega) (by omega)]
            exact hl))
          refine z_go 90 rfl ?_
          exact fin 242 (by rw [if_neg (fun z => hl (last.mpr z))])
  have x11 := R.1.1 11 fr (show fr < sN Sf 14 0 by omega)
  have x8 := R.1.1 8 0 ⟨rfl, by decide⟩
  have Mm := zRel_mem R.1 In
  refine zm_of_z G KX2_paintFrame rfl rfl ?_
  refine z_go 90 rfl ?_
  refine z_get x8 rfl rfl rfl rfl ?_
  refine z_go 90 rfl ?_
  refine z_get x11 rfl rfl rfl rfl ?_
  rw [show sN (zV Sf 4 g0) 8 fr = at' from h8]
  refine z_go 90 rfl ?_
  refine z_cV Mm.1 (c_paint G Mm at' 32 241 (by show _ ≤ sN Sf 1 0; omega)) KX6_paint IX6_paint VX6_paint rfl rfl rfl PX6_paint rfl rfl rfl rfl ?_
  rw [show gPaint (zV Sf 4 g0 4) at' (at' + 32) 241 = t.1 4 from hg.symm]
  have R1 := zSt_S R (t.1 4)
  rw [zV_twice] at R1
  have y11 := R1.1.1 11 fr (show fr < sN Sf 14 0 by omega)
  have Al : zAl X _ (D 12 fr) (D 13 fr) (W 12 fr) (sN Sf 10 fr) (K 13 fr) _ := zRel_al R1.1 (r := 12) (i := fr) (Or.inr ⟨rfl, show fr < sN Sf 14 0 by omega⟩)
  refine z_go 90 rfl ?_
  refine z_get y11 rfl rfl rfl rfl ?_
  refine z_cV Al.1 (c_size (z := .null) G Al.1) KJx4a65c_size_8abf5 IJx4a65c_size_8abf5 VJx4a65c_size_8abf5 rfl rfl rfl PJx4a65c_size_8abf5 rfl rfl rfl rfl ?_
  refine z_go 90 rfl ?_
  rw [h10, show nI (sEntL s fr e t 4).2.1 - (1 : Int32) = nI ((sEntL s fr e t 4).2.1 - 1) from n_sub (b := 1) (by omega) (by omega)]
  have st := step 0 (by omega) _ none none R1
  rw [show (sEntL s fr e t 0).2.1 = 0 from ht0] at st
  exact st
end ZPF
