theorem sInv_more {S : zS} {c c' : Nat} (I : sInv S c) (h1 : c ≤ c') (h2 : c' ≤ 512) : sInv S c' := by
  obtain ⟨I0, In, Ig, If, Ib, Iq, Ih, Im, Ic⟩ := I
  obtain ⟨c1, c2, c3, c4⟩ := Ic
  exact ⟨I0, In, Ig, If, Ib, Iq, Ih, Im, h2, by omega, by omega, by omega⟩
theorem sTells_inv {S : zS} {c c' : Nat} (I : sInv S c) {kd w many wr : Int32} {z : Int} (h1 : c + 1 ≤ c') (h2 : c' ≤ 512) : sInv (sTells S kd z w many wr) c' := by
  obtain ⟨I0, In, Ig, If, Ib, Iq, Ih, Im, Ic⟩ := I
  obtain ⟨c1, c2, c3, c4⟩ := Ic
  have e27 : sN (sTells S kd z w many wr) 27 0 = sN S 27 0 + 1 := by
    show (nI (sN S 27 0 + 1)).toInt.toNat = _
    rw [i_nI (by omega)]
    rfl
  refine ⟨?_, In, Ig, If, Ib, Iq, Ih, Im, h2, by show sN S 23 0 ≤ _; omega, by show sN S 25 0 ≤ _; omega, by rw [e27]; omega⟩
  refine sI0_V (sI0_V I0 fun _ _ => ?_) (fun h => by cases h)
  rw [i_nI (by omega)]
  omega
theorem sMw_inv {S : zS} {c a n : Nat} {g : Nat → Int32} (I : sInv S c) (hg : ∀ k, k < n → (g k).toInt8.toInt32 = g k) : sInv (sMw S a n g) c := by
  obtain ⟨I0, In, Ig, If, Ib, Iq, Ih, Im, Ic⟩ := I
  refine ⟨sI0_V I0 (fun h => by cases h), In, Ig, If, Ib, Iq, Ih, fun i => ?_, Ic⟩
  show (if a ≤ i ∧ i < a + n then g (i - a) else S 3 i).toInt8.toInt32 = if a ≤ i ∧ i < a + n then g (i - a) else S 3 i
  by_cases c : a ≤ i ∧ i < a + n
  · rw [if_pos c]; exact hg _ (by omega)
  · rw [if_neg c]; exact Im i
theorem sGive_at (S : zS) (kd : Int32) (n : Nat) (site : Int32) (a : Nat) (hb : sN S 23 0 ≤ 1000) (ha : a ≤ 10000) (hn : n ≤ 9000) (i : Nat) :
    sN (sGive S kd n site a) 23 0 = sN S 23 0 + 1 ∧ sN (sGive S kd n site a) 19 i = (if i = sN S 23 0 then a else sN S 19 i) ∧ sN (sGive S kd n site a) 20 i = (if i = sN S 23 0 then sCh n else sN S 20 i) ∧ sN (sGive S kd n site a) 15 i = (if i = sN S 23 0 then a + sRed n else sN S 15 i) ∧ sN (sGive S kd n site a) 16 i = (if i = sN S 23 0 then n else sN S 16 i) ∧ sN (sGive S kd n site a) 17 i = (if i = sN S 23 0 then kd.toInt.toNat else sN S 17 i) ∧ sN (sGive S kd n site a) 18 i = (if i = sN S 23 0 then 0 else sN S 18 i) := by
  have h1 := sRed_b n
  have h2 := sCh_b n
  refine ⟨?_, ?_, ?_, ?_, ?_, ?_, ?_⟩
  · show (nI (sN S 23 0 + 1)).toInt.toNat = _
    rw [i_nI (by omega)]; rfl
  · show (upd (S 19) (sN S 23 0) (nI a) i).toInt.toNat = _
    unfold upd
    split
    · rw [i_nI (by omega)]; rfl
    · rfl
  · show (upd (S 20) (sN S 23 0) (nI (sCh n)) i).toInt.toNat = _
    unfold upd
    split
    · rw [i_nI (by omega)]; rfl
    · rfl
  · show (upd (S 15) (sN S 23 0) (nI (a + sRed n)) i).toInt.toNat = _
    unfold upd
    split
    · rw [i_nI (by omega)]; rfl
    · rfl
  · show (upd (S 16) (sN S 23 0) (nI n) i).toInt.toNat = _
    unfold upd
    split
    · rw [i_nI (by omega)]; rfl
    · rfl
  · show (upd (S 17) (sN S 23 0) kd i).toInt.toNat = _
    unfold upd
    split <;> rfl
  · show (upd (S 18) (sN S 23 0) 0 i).toInt.toNat = _
    unfold upd
    split <;> rfl
theorem sI0_n {S : zS} (I : sI0 S) {k j n : Nat} (hn : n < 10000) : sI0 (zV S k (upd (S k) j (nI n))) := sI0_u I (fun _ => by rw [i_nI (by omega)]; omega)
theorem sGive_inv {S : zS} {c c' n a : Nat} {kd site : Int32} (I : sInv S c) (hp : sPlace S (sCh n) = some a) (hn : n ≤ sN S 1 0) (h1 : 0 ≤ kd.toInt) (h2 : kd.toInt ≤ 2) (h3 : c + 1 ≤ c') (h4 : c' ≤ 512) : sInv (sGive S kd n site a) c' := by
  obtain ⟨I0, In, Ig, If, Ib, Iq, Ih, Im, Ic⟩ := I
  obtain ⟨c1, c2, c3, c4⟩ := Ic
  obtain ⟨N1, N2, N3, N4⟩ := id In
  obtain ⟨i0, rfl, hfit, hfree⟩ := sPlace_some hp
  generalize ha : sN S 1 0 / 4 + 16 * i0 = a at hfit hfree ⊢
  have hr := sRed_b n
  have hc := sCh_b n
  have F := sGive_at S kd n site a (by omega) (by omega) (by omega)
  have eN : sN (sGive S kd n site a) 1 0 = sN S 1 0 := rfl
  have e25 : sN (sGive S kd n site a) 25 0 = sN S 25 0 := rfl
  have e24 : ∀ i, sN (sGive S kd n site a) 24 i = sN S 24 i := fun i => rfl
  refine ⟨?_, In, Ig, If, ⟨fun b hb => ?_, fun b d hb hd hne q1 q2 => ?_⟩, ⟨fun i hi => ?_, fun i j hi hj he => Iq.2 i j hi hj he⟩, ?_, ?_, h4, by rw [(F 0).1]; omega, by show sN S 25 0 ≤ _; omega, by show sN S 27 0 ≤ _; omega⟩
  · refine sI0_open (sI0_paint (sI0_V (sI0_V (sI0_V (sI0_u (S := zV (zV (zV (zV (zV (zV S 23 _) 19 _) 20 _) 15 _) 16 _) 17 _) (sI0_u (S := zV (zV (zV (zV (zV S 23 _) 19 _) 20 _) 15 _) 16 _) (sI0_n (S := zV (zV (zV (zV S 23 _) 19 _) 20 _) 15 _) (sI0_n (S := zV (zV (zV S 23 _) 19 _) 20 _) (sI0_n (S := zV (zV S 23 _) 19 _) (sI0_n (S := zV S 23 _) (sI0_V I0 fun _ _ => ?_) ?_) ?_) ?_) ?_) ?_) ?_) fun h => ?_) fun h => ?_) fun h => ?_) ?_) ?_
    · rw [i_nI (by omega)]; omega
    · omega
    · omega
    · omega
    · omega
    · intro _; omega
    · intro _; decide
    · cases h
    · cases h
    · cases h
    · decide
    · omega
  · rw [(F 0).1] at hb
    obtain ⟨-, f1, f2, f3, f4, f5, f6⟩ := F b
    rw [f1, f2, f3, f4, f5, f6, eN]
    by_cases q : b = sN S 23 0
    · rw [if_pos q, if_pos q, if_pos q, if_pos q, if_pos q, if_pos q]
      exact ⟨by omega, by omega, by omega, rfl, rfl, hn, by omega, by omega⟩
    · rw [if_neg q, if_neg q, if_neg q, if_neg q, if_neg q, if_neg q]
      exact Ib.1 b (by omega)
  · rw [(F 0).1] at hb hd
    obtain ⟨-, f1, f2, -, -, -, f6⟩ := F b
    obtain ⟨-, g1, g2, -, -, -, g6⟩ := F d
    rw [f6] at q1
    rw [g6] at q2
    rw [f1, f2, g1, g2]
    by_cases q : b = sN S 23 0
    · have q' : ¬ d = sN S 23 0 := by omega
      rw [if_pos q, if_pos q, if_neg q', if_neg q']
      rw [if_neg q'] at q2
      have := hfree d (by omega) q2
      omega
    · rw [if_neg q, if_neg q]
      rw [if_neg q] at q1
      by_cases q' : d = sN S 23 0
      · rw [if_pos q', if_pos q']
        have := hfree b (by omega) q1
        omega
      · rw [if_neg q', if_neg q']
        rw [if_neg q'] at q2
        exact Ib.2 b d (by omega) (by omega) hne q1 q2
  · obtain ⟨r1, r2⟩ := Iq.1 i hi
    rw [e24, (F 0).1]
    refine ⟨by omega, ?_⟩
    rw [(F (sN S 24 i)).2.2.2.2.2.2, if_neg (by omega)]
    exact r2
  · refine sIh_open (sIh_paint (S := zV (zV (zV (zV (zV (zV (zV (zV (zV (zV S 23 _) 19 _) 20 _) 15 _) 16 _) 17 _) 18 _) 21 _) 22 _) 3 _) Ih (by decide) (by decide)) (by omega) ?_ ?_ ?_
    · show a + sRed n + n + 8 ≤ sN S 1 0
      omega
    · show sN S 1 0 % 8 = 0
      omega
    · exact N2
  · intro i
    show (if a + sRed n ≤ i ∧ i < a + sRed n + n then -66 else S 3 i : Int32).toInt8.toInt32 = if a + sRed n ≤ i ∧ i < a + sRed n + n then -66 else S 3 i
    by_cases q : a + sRed n ≤ i ∧ i < a + sRed n + n
    · rw [if_pos q]; rfl
    · rw [if_neg q]; exact Im i
section ZFE
variable {X : zCx} {h : zHp} {m : Nat} {S : zS} {cc : Nat}
noncomputable def sMay (S : zS) (kd p : Int32) : Option Nat × zS := match sBIn S p 0 with
  | some b => if S 17 b = kd then (some b, S) else (none, sTells S 12 p.toInt p 0 1)
  | none => match sBIn S p 1 with
    | some _ => (none, sTells S 10 p.toInt p 0 1)
    | none => (none, sTells S 11 p.toInt p 0 1)
theorem l_self (p : Int32) : p.toInt64.toInt32 = p := by
  have rp := i_rng p
  apply i_ext
  rw [l_32, l_i, Int.bmod_def]
  omega
theorem sBIn_b {p st : Int32} {b : Nat} (hq : sBIn S p st = some b) : b < sN S 23 0 ∧ S 15 b = p ∧ S 18 b = st := by
  obtain ⟨h1, h2, -⟩ := zFst_some.mp hq
  exact ⟨h1, h2.1, h2.2⟩
theorem rc_mayGo (G : zG X) (I : sInv S cc) (kd p : Int32) : ZM X MX11_mayGo 3 181 [.ref m, .int kd, .int p] (zr X h m S) (zX (zr X h m (sMay S kd p).2) (some (.int (zoI (sMay S kd p).1)))) := by
  obtain ⟨I0, In, Ig, If, Ib, Iq, Ih, Im, Ic⟩ := id I
  obtain ⟨c1, c2, c3, c4⟩ := Ic
  refine zm_of_z G KX11_mayGo rfl rfl ?_
  refine z_go 90 rfl ?_
  refine z_cV zr_o (rc_blockIn G I p 0) KX11_blockIn IX11_blockIn VX11_blockIn rfl rfl rfl PX11_blockIn rfl rfl rfl rfl ?_
  refine z_go 90 rfl ?_
  cases hq : sBIn S p 0 with
  | some b =>
    obtain ⟨b1, b2, b3⟩ := sBIn_b hq
    show Z X MX11_mayGo _ _ _ [_, _, _, some (.int (nI b))] [.int (nI b)] _
    refine z_br rfl rfl (fun c => ?_) (fun c => ?_) <;> (try dsimp only at c)
    · rw [show (0 : Int32) = nI 0 from rfl, n_lt (by omega) (by omega)] at c
      omega
    refine z_go 90 rfl ?_
    refine z_get zr_o rfl rfl rfl rfl ?_
    refine z_go 90 rfl ?_
    refine r_ld17 b (i_nI (by omega)) (by omega) rfl ?_
    refine z_go 90 rfl ?_
    refine z_br rfl rfl (fun d => ?_) (fun d => ?_) <;> (try dsimp only at d)
    · refine z_go 90 rfl ?_
      refine z_br rfl rfl (fun e => ?_) (fun e => ?_) <;> (try dsimp only at e)
      · rw [show (0 : Int32) = nI 0 from rfl, n_lt (by omega) (by omega)] at e
        omega
      refine z_go 90 rfl ?_
      refine z_cV zr_o (rc_tells G I 12 _ p.toInt p 0 1 (l_i p) (l_self p) (Or.inr rfl)) KX11_tells IX11_tells VX11_tells rfl rfl rfl PX11_tells rfl rfl rfl rfl ?_
      refine z_go 90 rfl ?_
      refine z_iret rfl rfl ?_
      unfold sMay
      rw [hq]
      dsimp only
      rw [if_neg d]
      exact ⟨rfl, rfl⟩
    · refine z_go 90 rfl ?_
      refine z_iret rfl rfl ?_
      unfold sMay
      rw [hq]
      dsimp only
      rw [if_pos d]
      exact ⟨rfl, rfl⟩
  | none =>
    show Z X MX11_mayGo _ _ _ [_, _, _, some (.int (-1))] [.int (-1)] _
    refine z_br rfl rfl (fun _ => ?_) (fun c => absurd c (by first | decide | (dsimp only; decide)))
    refine z_go 90 rfl ?_
    refine z_br rfl rfl (fun _ => ?_) (fun c => absurd c (by first | decide | (dsimp only; decide)))
    refine z_go 90 rfl ?_
    refine z_cV zr_o (rc_blockIn G I p 1) KX11_blockIn IX11_blockIn VX11_blockIn rfl rfl rfl PX11_blockIn rfl rfl rfl rfl ?_
    refine z_go 90 rfl ?_
    cases hp : sBIn S p 1 with
    | some b =>
      obtain ⟨b1, -⟩ := sBIn_b hp
      show Z X MX11_mayGo _ _ _ _ [.int (nI b), _] _
      refine z_br rfl rfl (fun c => ?_) (fun c => ?_) <;> (try dsimp only at c)
      · rw [show (0 : Int32) = nI 0 from rfl, n_lt (by omega) (by omega)] at c
        omega
      refine z_go 90 rfl ?_
      refine z_cV zr_o (rc_tells G I 10 _ p.toInt p 0 1 (l_i p) (l_self p) (Or.inr rfl)) KX11_tells IX11_tells VX11_tells rfl rfl rfl PX11_tells rfl rfl rfl rfl ?_
      refine z_go 90 rfl ?_
      refine z_iret rfl rfl ?_
      unfold sMay
      rw [hq]
      dsimp only
      rw [hp]
      exact ⟨rfl, rfl⟩
    | none =>
      show Z X MX11_mayGo _ _ _ _ [.int (-1), _] _
      refine z_br rfl rfl (fun _ => ?_) (fun c => absurd c (by first | decide | (dsimp only; decide)))
      refine z_go 90 rfl ?_
      refine z_cV zr_o (rc_tells G I 11 _ p.toInt p 0 1 (l_i p) (l_self p) (Or.inr rfl)) KX11_tells IX11_tells VX11_tells rfl rfl rfl PX11_tells rfl rfl rfl rfl ?_
      refine z_go 90 rfl ?_
      refine z_iret rfl rfl ?_
      unfold sMay
      rw [hq]
      dsimp only
      rw [hp]
      exact ⟨rfl, rfl⟩
theorem sMay_s {kd p : Int32} {b : Nat} (hq : (sMay S kd p).1 = some b) : sMay S kd p = (some b, S) ∧ b < sN S 23 0 ∧ S 15 b = p ∧ S 18 b = 0 ∧ S 17 b = kd := by
  unfold sMay at hq ⊢
  cases hb : sBIn S p 0 with
  | some b' =>
    rw [hb] at hq
    dsimp only at hq ⊢
    by_cases c : S 17 b' = kd
    · rw [if_pos c] at hq ⊢
      cases hq
      obtain ⟨b1, b2, b3⟩ := sBIn_b hb
      exact ⟨rfl, b1, b2, b3, c⟩
    · rw [if_neg c] at hq
      cases hq
  | none =>
    rw [hb] at hq
    dsimp only at hq
    split at hq <;> cases hq
noncomputable def sFreeC (S : zS) (p q r : Int32) : Int32 × zS := zif (p.toInt < 0 ∨ 2 < p.toInt) (0, sThrow S 1) (zif (q = -1) (0, sThrow S 0) (match (sMay (sThrow S 0) p q).1 with
  | some b => (1, sGoes (sThrow S 0) b r)
  | none => (0, (sMay (sThrow S 0) p q).2)))
theorem rc_free (G : zG X) (I : sInv S cc) (hcc : cc < 512) (p q r : Int32) : ZM X MX11_free 4 210 [.ref m, .int p, .int q, .int r] (zr X h m S) (zX (zr X h m (sFreeC S p q r).2) (some (.int (sFreeC S p q r).1))) := by
  obtain ⟨I0, In, Ig, If, Ib, Iq, Ih, Im, Ic⟩ := id I
  obtain ⟨c1, c2, c3, c4⟩ := Ic
  have t0 : (0 : Int32).toInt = 0 := rfl
  have t2 : (2 : Int32).toInt = 2 := rfl
  refine zm_of_z G KX11_free rfl rfl ?_
  refine z_go 90 rfl ?_
  have bad : (p.toInt < 0 ∨ 2 < p.toInt) → Z X MX11_free (4, 210, h.2.1, h.2.2) (zr X h m S) 15 [some (.ref m), some (.int p), some (.int q), some (.int r), none] [.int 1, .ref m] (zX (zr X h m (sFreeC S p q r).2) (some (.int (sFreeC S p q r).1))) := by
    intro hb
    refine rr_yesN G (by decide) rfl rfl rfl rfl rfl ?_
    refine z_go 90 rfl ?_
    refine z_zret rfl rfl rfl ?_
    unfold sFreeC
    rw [zif_pos hb]
    exact ⟨rfl, rfl⟩
  refine z_br rfl rfl (fun e1 => ?_) (fun e1 => ?_) <;> (try dsimp only at e1)
  · rw [i_lt] at e1
    refine z_go 90 rfl ?_
    exact bad (by omega)
  rw [i_lt] at e1
  refine z_go 90 rfl ?_
  refine z_br rfl rfl (fun e2 => ?_) (fun e2 => ?_) <;> (try dsimp only at e2)
  case _ =>
    rw [i_le] at e2
    refine z_go 90 rfl ?_
    refine rr_noN G rfl rfl rfl rfl rfl ?_
    have hS : sFreeC S p q r = _ := zif_neg (by omega)
    rw [hS]
    refine z_go 90 rfl ?_
    refine z_br rfl rfl (fun e3 => ?_) (fun e3 => ?_) <;> (try dsimp only at e3)
    · rw [zif_neg e3]
      refine z_go 90 rfl ?_
      refine z_cV zr_o (rc_mayGo G (sInv_T I 0 (by decide)) p q) KX11_mayGo IX11_mayGo VX11_mayGo rfl rfl rfl PX11_mayGo rfl rfl rfl rfl ?_
      refine z_go 90 rfl ?_
      cases hm : (sMay (sThrow S 0) p q).1 with
      | some b =>
        obtain ⟨m1, m2, m3, m4, m5⟩ := sMay_s hm
        have m2' : b < sN S 23 0 := m2
        have m4' : S 18 b = 0 := m4
        rw [m1]
        show Z X MX11_free _ _ _ [_, _, _, _, some (.int (nI b))] [.int (nI b)] _
        refine z_br rfl rfl (fun k => ?_) (fun k => ?_) <;> (try dsimp only at k)
        · rw [show (0 : Int32) = nI 0 from rfl, n_lt (by omega) (by omega)] at k
          omega
        refine z_go 90 rfl ?_
        refine z_cV zr_o (rc_goes G (sInv_T I 0 (by decide)) (c' := cc + 1) (b := b) (site := r) m2 (by show (S 18 b).toInt.toNat = 0; rw [m4']; rfl) (by show sN S 25 0 + 1 ≤ _; omega) (by omega) (by omega)) KX11_goes IX11_goes VX11_goes rfl rfl rfl PX11_goes rfl rfl rfl rfl ?_
        refine z_go 90 rfl ?_
        refine z_br rfl rfl (fun k2 => ?_) (fun k2 => ?_) <;> (try dsimp only at k2)
        · rw [show (0 : Int32) = nI 0 from rfl, n_lt (by omega) (by omega)] at k2
          omega
        refine z_go 90 rfl ?_
        exact z_zret rfl rfl rfl ⟨rfl, rfl⟩
      | none =>
        show Z X MX11_free _ _ _ [_, _, _, _, some (.int (-1))] [.int (-1)] _
        refine z_br rfl rfl (fun _ => ?_) (fun c => absurd c (by first | decide | (dsimp only; decide)))
        refine z_go 90 rfl ?_
        refine z_br rfl rfl (fun _ => ?_) (fun c => absurd c (by first | decide | (dsimp only; decide)))
        refine z_go 90 rfl ?_
        exact z_zret rfl rfl rfl ⟨rfl, rfl⟩
    · rw [zif_pos e3]
      refine z_go 90 rfl ?_
      exact z_zret rfl rfl rfl ⟨rfl, rfl⟩
  · rw [i_le] at e2
    refine z_go 90 rfl ?_
    exact bad (by omega)
end ZFE
