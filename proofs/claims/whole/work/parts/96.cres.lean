section ZRS
variable {X : zCx} {F : Nat → Option va_E} {o p q : Nat} {S : zS} {D : Nat → Nat → Nat} {W : Nat → Nat → Int32} {K : Nat → Nat → Nat} {h : zHp} {cc : Nat}
theorem sShed_f : ∀ (k : Nat) (S : zS), (sShed k S) 15 = S 15 ∧ (sShed k S) 23 = S 23 := by
  intro k
  induction k with
  | zero => intro S; exact ⟨rfl, rfl⟩
  | succ k ih =>
    intro S
    show (if sN S 2 0 < sHB S then sShed k (sOld S) else S) 15 = _ ∧ (if sN S 2 0 < sHB S then sShed k (sOld S) else S) 23 = _
    split
    · exact ih (sOld S)
    · exact ⟨rfl, rfl⟩
theorem sGoes_f (S : zS) (b : Nat) (site : Int32) : (sGoes S b site) 15 = S 15 ∧ (sGoes S b site) 23 = S 23 := sShed_f _ (sHold S b site)
theorem sGoes_n (S : zS) (b : Nat) (site : Int32) (i : Nat) : sN (sGoes S b site) 15 i = sN S 15 i ∧ sN (sGoes S b site) 23 i = sN S 23 i := by
  unfold sN
  rw [(sGoes_f S b site).1, (sGoes_f S b site).2]
  exact ⟨rfl, rfl⟩
theorem sMw_n (S : zS) (a n : Nat) (g : Nat → Int32) (i : Nat) : sN (sMw S a n g) 15 i = sN S 15 i ∧ sN (sMw S a n g) 23 i = sN S 23 i := ⟨rfl, rfl⟩
theorem n_min (a b : Nat) (ha : a < 2147483648) (hb : b < 2147483648) : (if nI b < nI a then nI b else nI a) = nI (min a b) := by
  by_cases c : nI b < nI a
  · rw [if_pos c]
    rw [n_lt hb ha] at c
    rw [Nat.min_eq_right (by omega)]
  · rw [if_neg c]
    rw [n_lt hb ha] at c
    rw [Nat.min_eq_left (by omega)]
theorem sRes_0 (S : zS) (b n : Nat) (r : Int32) : (sResB S b n r).2 0 = S 0 := by
  unfold sResB
  cases (sMake (sCh n) (sN S 25 0) S).2 with
  | none => exact sMake_0 _ _ _
  | some a =>
    show sGoes _ b r 0 = _
    rw [sGoes_0]
    exact sMake_0 (sCh n) (sN S 25 0) S
theorem k_resB (G : zG X) (I : sInv S cc) (hcc : cc < 512) (R : zSt X F o S D W K h p q) (hp : p + 100 ≤ 500000 ∧ q + 10000 ≤ 7000000) (site : Int32) (n b : Nat) (hn : n ≤ sN S 1 0) (hb : b < sN S 23 0) (hl : sN S 18 b = 0) (w : Int32) {Q : zRs → zHp → Prop} (hQ : ∀ r h', zPo X F o (some (.int (sResB S b n site).1)) (sResB S b n site).2 (p + 30) (q + 3000 + 1000) r h' → Q r h') : Z X MX10_resize (10, 380, h.2.1, h.2.2) h 40 [some (.ref o), some (.int w), some (.int (nI n)), some (.int site), some (.ref (D 18 b)), none] [.ref (D 15 0)] Q := by
  obtain ⟨I0, In, Ig, If, Ib, Iq, Ih, Im, c1, c2, c3, c4⟩ := id I
  have N2 := In.2.1
  have hrd : sRed n ≤ 128 := by unfold sRed; split <;> (try split) <;> (try split) <;> omega
  have ibb := Ib.1 b hb
  refine z_go 90 rfl ?_
  refine z_cVE (zRel_15 R.1) (k_give G I R (by omega) (by omega) 0 site n hn) KX4_give IX4_give VX4_give rfl rfl rfl PX4_give rfl rfl rfl rfl ?_
  intro v h1 P1
  obtain ⟨J1, J2, J3, J4⟩ := sMake_inv (n := sCh n) (sN S 25 0) S I rfl
  unfold sResB at hQ
  rcases P1 with ⟨g1, rfl, W', R'⟩ | ⟨a, D', W', K', g1, rfl, g2, g3, g4, R'⟩
  · rw [g1] at hQ
    refine z_go 90 rfl ?_
    exact z_iret rfl rfl (hQ _ _ ⟨rfl, D, W', K, zSt_le R' (by omega) (by omega)⟩)
  · rw [g1] at hQ
    dsimp only at hQ
    have hpl : sPlace (sMake (sCh n) (sN S 25 0) S).1 (sCh n) = some a := by rw [← J2]; exact g1
    obtain ⟨i, ea, ea2, -⟩ := sPlace_some hpl
    have hch := sCh_b n
    have mf := sMake_f (sCh n) (sN S 25 0) S
    have ml := sMake_l (n := sCh n) (sN S 25 0) S I rfl b hl
    obtain ⟨S1, eS1⟩ : ∃ S1, S1 = (sMake (sCh n) (sN S 25 0) S).1 := ⟨_, rfl⟩
    rw [← eS1] at J1 J3 J4 hpl ea ea2 mf ml R' hQ
    have I2 := sGive_inv (kd := 0) (site := site) (c' := cc + 1) J1 hpl (by omega) (by decide) (by decide) (by omega) (by omega)
    have ga := sGive_at S1 0 n site a (by omega) (by omega) (by omega)
    have gb := ga b
    have gn := ga (sN S 23 0)
    rw [J4] at gb gn
    rw [if_neg (by omega), if_neg (by omega), if_neg (by omega), if_neg (by omega)] at gb
    rw [if_pos rfl, if_pos rfl, if_pos rfl, if_pos rfl] at gn
    have gs := gb.2.2.2.2.2.2
    rw [if_neg (by omega)] at gs
    obtain ⟨S2, eS2⟩ : ∃ S2, S2 = sGive S1 0 n site a := ⟨_, rfl⟩
    rw [← eS2] at I2 gb gn gs R' hQ
    have e15 : sN S2 15 b = sN S 15 b := by rw [gb.2.2.2.1]; unfold sN; rw [mf.1]
    have e16 : sN S2 16 b = sN S 16 b := by rw [gb.2.2.2.2.1]; unfold sN; rw [mf.2.1]
    have e18 : sN S2 18 b = 0 := by rw [gs]; exact ml
    have N1 : sN S2 1 0 = sN S 1 0 := by rw [eS2, ← J3]; rfl
    have e25 : sN S2 25 0 ≤ cc := by
      have : sN S2 25 0 = sN S1 25 0 := by rw [eS2]; rfl
      have := J1.2.2.2.2.2.2.2.2.2.2.1
      omega
    have xb := R'.1.1 18 b (show b < sN S2 23 0 by omega)
    have xn := R'.1.1 18 (sN S 23 0) (show sN S 23 0 < sN S2 23 0 by omega)
    rw [g2 b (by omega)] at xb
    have Mm := zRel_mem R'.1 I2.2.1
    rw [g3] at Mm
    have ho := zSt_0 R'
    rw [g3, g4] at ho
    refine z_go 90 rfl ?_
    refine z_get ho rfl rfl rfl rfl ?_
    refine z_go 90 rfl ?_
    refine z_get xn rfl rfl rfl rfl ?_
    refine z_go 90 rfl ?_
    refine z_get xb rfl rfl rfl rfl ?_
    refine z_go 90 rfl ?_
    refine z_get xn rfl rfl rfl rfl ?_
    refine z_go 90 rfl ?_
    refine z_get xb rfl rfl rfl rfl ?_
    refine z_cS (c_min G (nI (sN S2 16 (sN S 23 0))) (nI (sN S2 16 b))) KJ9_min_7cf53 SJ9_min_7cf53 rfl rfl PJ9_min_7cf53 rfl rfl rfl rfl ?_
    rw [e15, e16, gn.2.2.2.1, gn.2.2.2.2.1, n_min n (sN S 16 b) (by omega) (by omega)]
    have hcb := sCh_b (sN S 16 b)
    refine z_cV Mm.1 (c_moveBytes G Mm (nI (a + sRed n)) (nI (sN S 15 b)) (min n (sN S 16 b)) (Or.inr ⟨sN S 15 b, a + sRed n, rfl, rfl, by omega, by omega⟩)) KX6_moveBytes IX6_moveBytes VX6_moveBytes rfl rfl rfl PX6_moveBytes rfl rfl rfl rfl ?_
    rw [n_toNat (n := a + sRed n) (by omega), n_toNat (n := sN S 15 b) (by omega)]
    have R3 : zSt X F o (sMw S2 (a + sRed n) (min n (sN S 16 b)) (fun k => S2 3 (sN S 15 b + k))) D' W' K' _ (p + 2) (q + 2000) := zSt_B R' _
    have I3 : sInv (sMw S2 (a + sRed n) (min n (sN S 16 b)) (fun k => S2 3 (sN S 15 b + k))) (cc + 1) := sMw_inv I2 (fun k _ => I2.2.2.2.2.2.2.2.1 _)
    have tk := k_take G I3 R3 (by omega) site (c' := cc + 1) (b := b) (show b < sN S2 23 0 by omega) e18 (show sN S2 25 0 + 1 ≤ cc + 1 by omega) (by omega) (by omega)
    rw [g2 b (by omega), g4] at tk
    have k15 := zRel_15 R3.1
    rw [g4] at k15
    have ho3 := zSt_0 R3
    rw [g4] at ho3
    refine z_go 90 rfl ?_
    refine z_get ho3 rfl rfl rfl rfl ?_
    refine z_go 90 rfl ?_
    refine z_cVP k15 tk KX4_takeBack IX4_takeBack VX4_takeBack rfl rfl rfl PX4_takeBack rfl rfl rfl rfl ?_
    intro h4 P4
    obtain ⟨D4, W4, K4, d4, R4⟩ := P4
    have f23 : sN (sGoes (sMw S2 (a + sRed n) (min n (sN S 16 b)) (fun k => S2 3 (sN S 15 b + k))) b site) 23 0 = sN S2 23 0 := by rw [(sGoes_n _ b site 0).2, (sMw_n _ _ _ _ 0).2]
    have f15 : sN (sGoes (sMw S2 (a + sRed n) (min n (sN S 16 b)) (fun k => S2 3 (sN S 15 b + k))) b site) 15 (sN S 23 0) = sN S2 15 (sN S 23 0) := by rw [(sGoes_n _ b site _).1, (sMw_n _ _ _ _ _).1]
    have x4 := R4.1.1 18 (sN S 23 0) (show sN S 23 0 < sN (sGoes _ b site) 23 0 by rw [f23]; omega)
    rw [d4] at x4
    refine z_go 90 rfl ?_
    refine z_get x4 rfl rfl rfl rfl ?_
    rw [f15, gn.2.2.2.1]
    exact z_iret rfl rfl (hQ _ _ ⟨rfl, D4, W4, K4, zSt_le R4 (by omega) (by omega)⟩)
theorem zPub_4 {v : Value} {E1 E2 : String} {S' : zS} {h' : zHp} {p' q' : Nat} (P : ∃ D W K, zSt X F o S' D W K h' p' q') (hp : p' ≤ p + 30) (hq : q' ≤ q + 4000) (e : S' 0 0 = 0) : zPub X F o E1 E2 v S' (p + 30) (q + 4000) (.inl (some v)) h' := by
  obtain ⟨D, W, K, P⟩ := P
  exact ⟨⟨D, W, K, zSt_le P hp hq⟩, Or.inl ⟨e, rfl⟩⟩
theorem k_resize (G : zG X) (I : sInv S cc) (hcc : cc < 512) (R : zSt X F o S D W K h p q) (hp : p + 100 ≤ 500000 ∧ q + 10000 ≤ 7000000) (w n site : Int32) : ZM X MX10_resize 10 380 [.ref o, .int w, .int n, .int site] h (zPub X F o zIAE zIAE (.int (sRes S w n site).1) (sRes S w n site).2 (p + 30) (q + 4000)) := by
  have I' := sInv_T I 0 (by decide)
  have R' := zSt_T R 0
  have lim := zSt_limA R (by omega)
  obtain ⟨c1, c2, c3, c4⟩ := I.2.2.2.2.2.2.2.2
  have hc : sN (sThrow S 0) 27 0 < 512 := by show sN S 27 0 < 512; omega
  refine zm_of_z G KX10_resize rfl rfl ?_
  refine z_go 90 rfl ?_
  refine z_cV (zSt_0 R) (k_isC G I R n) KX10_isCount IX10_isCount VX10_isCount rfl rfl rfl PX10_isCount rfl rfl rfl rfl ?_
  refine z_ite (p := sNoA S n) (fun nv => ?_) (fun nv => ?_)
  · rw [zif_pos nv, show sRes S w n site = (0, sThrow S 1) from zif_pos nv]
    refine z_cST (c_demand0 G lim) KX10_demand SX10_demand rfl rfl PX10_demand rfl rfl rfl rfl rfl ?_
    obtain ⟨⟨D1, W1, K1, q1⟩, q2⟩ := zPub_x (v := .int 0) (E1 := zIAE) (E2 := zIAE) R
    exact ⟨⟨D1, W1, K1, zSt_le q1 (by omega) (by omega)⟩, Or.inr (Or.inl ⟨rfl, rfl⟩)⟩
  · have nv' := nv
    unfold sNoA at nv'
    obtain ⟨k, rfl, hk⟩ := i_nat (x := n) (by omega)
    rw [i_nI hk] at nv'
    have hS : sRes S w (nI k) site = zif (w = -1) (sGivenB (sThrow S 0) 0 k site) (match (sMay (sThrow S 0) 0 w).1 with | some b => sResB (sThrow S 0) b k site | none => (-1, (sMay (sThrow S 0) 0 w).2)) := by
      unfold sRes
      rw [zif_neg (show ¬ ((nI k).toInt < 0 ∨ (sN S 1 0 : Int) < (nI k).toInt) from nv), n_toNat hk]
      rfl
    rw [zif_neg nv, hS]
    refine z_cS (c_demand1 G 1 (by decide)) KX10_demand SX10_demand rfl rfl PX10_demand rfl rfl rfl rfl ?_
    refine z_go 90 rfl ?_
    refine z_br rfl rfl (fun e => ?_) (fun e => ?_) <;> (try dsimp only at e)
    · rw [zif_neg e]
      refine z_go 90 rfl ?_
      cases hm : (sMay (sThrow S 0) 0 w).1 with
      | none =>
        refine z_cVP (zSt_0 R) (k_btf0 G I' hc R' (by omega) 0 w hm) KX10_blockToFree IX10_blockToFree VX10_blockToFree rfl rfl rfl PX10_blockToFree rfl rfl rfl rfl ?_
        intro g1 P1
        refine z_go 90 rfl ?_
        exact z_iret rfl rfl (zPub_4 P1 (by omega) (by omega) (by show (sMay (sThrow S 0) 0 w).2 0 0 = 0; rw [sMay_2 I']; rfl))
      | some b =>
        have hb := sMay_1 I' hm
        refine z_cV (zSt_0 R) (k_btf1 G I' R' 0 w hm) KX10_blockToFree IX10_blockToFree VX10_blockToFree rfl rfl rfl PX10_blockToFree rfl rfl rfl rfl ?_
        refine z_go 90 rfl ?_
        refine z_get (zSt_0 R) rfl rfl rfl rfl ?_
        refine k_resB G I' hcc R' hp site k b (by show k ≤ sN S 1 0; omega) hb.1 hb.2 w (fun r g P => ?_)
        obtain ⟨rfl, P⟩ := P
        exact zPub_4 P (by omega) (by omega) (by show (sResB (sThrow S 0) b k site).2 0 0 = 0; rw [sRes_0]; rfl)
    · rw [zif_pos e]
      refine z_go 90 rfl ?_
      refine z_cVP (zSt_0 R) (k_allocB G I' R' (by omega) (by show sN S 23 0 < 512; omega) 0 site (by decide) k (by show k ≤ sN S 1 0; omega) (fun r h' P => P)) KX10_allocate IX10_allocate VX10_allocate rfl rfl rfl PX10_allocate rfl rfl rfl rfl ?_
      intro g1 P1
      exact z_iret rfl rfl (zPub_4 P1 (by omega) (by omega) (by rw [sGivenB_0]; rfl))
end ZRS
