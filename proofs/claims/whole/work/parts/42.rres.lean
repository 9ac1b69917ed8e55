section ZRZ
variable {X : zCx} {h : zHp} {m : Nat} {S : zS} {cc : Nat}
theorem sMake_f (n : Nat) : ∀ (k : Nat) (S : zS), (sMake n k S).1 15 = S 15 ∧ (sMake n k S).1 16 = S 16 ∧ (sMake n k S).1 3 = S 3 ∧ (sMake n k S).1 17 = S 17 ∧ (sMake n k S).1 19 = S 19 ∧ (sMake n k S).1 20 = S 20 := by
  intro k
  induction k with
  | zero => intro S; exact ⟨rfl, rfl, rfl, rfl, rfl, rfl⟩
  | succ k ih =>
    intro S
    unfold sMake
    cases hq : sPlace S n with
    | some a => exact ⟨rfl, rfl, rfl, rfl, rfl, rfl⟩
    | none =>
      obtain ⟨a1, a2, a3, a4, a5, a6⟩ := ih (sOld S)
      exact ⟨a1, a2, a3, a4, a5, a6⟩
/-- what is live stays live -/
theorem sMake_l {n c : Nat} : ∀ (k : Nat) (S : zS), sInv S c → k = sN S 25 0 → ∀ b, sN S 18 b = 0 → sN (sMake n k S).1 18 b = 0 := by
  intro k
  induction k with
  | zero => intro S I h b hb; exact hb
  | succ k ih =>
    intro S I h b hb
    unfold sMake
    cases hq : sPlace S n with
    | some a => exact hb
    | none =>
      refine ih (sOld S) (sOld_inv I (by omega)) (by rw [sOld_25 I.1]; omega) b ?_
      rw [sOld_18, if_neg, hb]
      intro z
      have := (I.2.2.2.2.2.1.1 0 (by omega)).2
      rw [← z, hb] at this
      omega
noncomputable def sResB (S : zS) (b n : Nat) (r : Int32) : Int32 × zS := match (sMake (sCh n) (sN S 25 0) S).2 with
  | none => (-1, (sMake (sCh n) (sN S 25 0) S).1)
  | some a => (nI (a + sRed n), sGoes (sMw (sGive (sMake (sCh n) (sN S 25 0) S).1 0 n r a) (a + sRed n) (min n (sN S 16 b)) (fun k => (sGive (sMake (sCh n) (sN S 25 0) S).1 0 n r a) 3 (sN S 15 b + k))) b r)
noncomputable def sRes (S : zS) (p q r : Int32) : Int32 × zS := zif (q.toInt < 0 ∨ (sN S 1 0 : Int) < q.toInt) (0, sThrow S 1) (zif (p = -1) (sGivenB (sThrow S 0) 0 q.toInt.toNat r) (match (sMay (sThrow S 0) 0 p).1 with
  | some b => sResB (sThrow S 0) b q.toInt.toNat r
  | none => (-1, (sMay (sThrow S 0) 0 p).2)))
theorem sRes_f {S : zS} {c b n a : Nat} {r : Int32} (I : sInv S c) (hb : b < sN S 23 0) (hl : sN S 18 b = 0) (hn : n ≤ sN S 1 0) (hc : c + 1 ≤ 512) (ha : (sMake (sCh n) (sN S 25 0) S).2 = some a) :
    sInv (sGive (sMake (sCh n) (sN S 25 0) S).1 0 n r a) (c + 1) ∧ a + sCh n ≤ sN S 1 0 ∧ sN (sGive (sMake (sCh n) (sN S 25 0) S).1 0 n r a) 16 b = sN S 16 b ∧ sN (sGive (sMake (sCh n) (sN S 25 0) S).1 0 n r a) 15 b = sN S 15 b ∧ sN (sGive (sMake (sCh n) (sN S 25 0) S).1 0 n r a) 18 b = 0 ∧ b < sN (sGive (sMake (sCh n) (sN S 25 0) S).1 0 n r a) 23 0 ∧ sN (sGive (sMake (sCh n) (sN S 25 0) S).1 0 n r a) 25 0 ≤ c ∧ (sN S 19 b + sN S 20 b ≤ a ∨ a + sCh n ≤ sN S 19 b) := by
  obtain ⟨J, j2, j3, j4⟩ := sMake_inv (n := sCh n) _ S I rfl
  obtain ⟨f1, f2, f3, f4, f5, f6⟩ := sMake_f (sCh n) (sN S 25 0) S
  have hl' := sMake_l (n := sCh n) _ S I rfl b hl
  generalize sMake (sCh n) (sN S 25 0) S = t at *
  obtain ⟨T, o⟩ := t
  dsimp only at *
  subst ha
  have hN : n ≤ sN T 1 0 := by omega
  obtain ⟨i, hi, hfit, hfree⟩ := sPlace_some j2.symm
  obtain ⟨-, -, -, -, -, -, -, -, k1, k2, k3, k4⟩ := id J
  have N2 := J.2.1.2.1
  have F := sGive_at T 0 n r a (by omega) (by omega) (by omega) b
  have hne : ¬ b = sN T 23 0 := by omega
  refine ⟨sGive_inv J j2.symm hN (by decide) (by decide) (Nat.le_refl _) hc, by omega, ?_, ?_, ?_, ?_, k3, ?_⟩
  · rw [F.2.2.2.2.1, if_neg hne]; unfold sN; rw [f2]
  · rw [F.2.2.2.1, if_neg hne]; unfold sN; rw [f1]
  · rw [F.2.2.2.2.2.2, if_neg hne]; exact hl'
  · rw [F.1]; omega
  · have := hfree b (by omega) (by omega)
    have e19 : sN T 19 b = sN S 19 b := by unfold sN; rw [f5]
    have e20 : sN T 20 b = sN S 20 b := by unfold sN; rw [f6]
    omega
theorem rc_res2 (G : zG X) (I : sInv S cc) (hcc : cc + 1 ≤ 512) (p r : Int32) (b n : Nat) (hb : b < sN S 23 0) (hl : sN S 18 b = 0) (hn : n ≤ sN S 1 0) : Z X MX11_resize (4, 210, h.2.1, h.2.2) (zr X h m S) 58 [some (.ref m), some (.int p), some (.int (nI n)), some (.int r), some (.int (nI b)), none, none] [.int r, .int (nI n), .int 0, .ref m] (zX (zr X h m (sResB S b n r).2) (some (.int (sResB S b n r).1))) := by
  obtain ⟨I0, In, Ig, If, Ib, Iq, Ih, Im, Ic⟩ := id I
  obtain ⟨c1, c2, c3, c4⟩ := Ic
  have N2 := In.2.1
  refine z_cV zr_o (rc_given G I 0 r n hn) KX11_given IX11_given VX11_given rfl rfl rfl PX11_given rfl rfl rfl rfl ?_
  refine z_go 90 rfl ?_
  cases hm : (sMake (sCh n) (sN S 25 0) S).2 with
  | none =>
    have e1 : sGivenB S 0 n r = (-1, (sMake (sCh n) (sN S 25 0) S).1) := by unfold sGivenB; rw [hm]
    have e2 : sResB S b n r = (-1, (sMake (sCh n) (sN S 25 0) S).1) := by unfold sResB; rw [hm]
    rw [e1, e2]
    refine z_br rfl rfl (fun c => absurd c (by first | decide | (dsimp only; decide))) (fun _ => ?_)
    refine z_go 90 rfl ?_
    exact z_iret rfl rfl ⟨rfl, rfl⟩
  | some a =>
    have e1 : sGivenB S 0 n r = (nI (a + sRed n), sGive (sMake (sCh n) (sN S 25 0) S).1 0 n r a) := by unfold sGivenB; rw [hm]
    have e2 : sResB S b n r = (nI (a + sRed n), sGoes (sMw (sGive (sMake (sCh n) (sN S 25 0) S).1 0 n r a) (a + sRed n) (min n (sN S 16 b)) (fun k => (sGive (sMake (sCh n) (sN S 25 0) S).1 0 n r a) 3 (sN S 15 b + k))) b r) := by unfold sResB; rw [hm]
    rw [e1, e2]
    obtain ⟨J, j1, j2, j3, j4, j5, j6, j7⟩ := sRes_f (r := r) I hb hl hn hcc hm
    obtain ⟨g1, g2, g3, g4, g5, g6, g7, g8⟩ := Ib.1 b hb
    have hr := sRed_b n
    have hch := sCh_b n
    have hrb := sRed_b (sN S 16 b)
    have hcb := sCh_b (sN S 16 b)
    generalize sGive (sMake (sCh n) (sN S 25 0) S).1 0 n r a = T at J j2 j3 j4 j5 j6 ⊢
    have I0T := J.1
    have e16 : T 16 b = nI (sN S 16 b) := by rw [← j2]; exact sN_eq I0T rfl
    have e15 : T 15 b = nI (sN S 15 b) := by rw [← j3]; exact sN_eq I0T rfl
    dsimp only
    refine z_br rfl rfl (fun c => ?_) (fun c => ?_) <;> (try dsimp only at c)
    case _ =>
      refine z_go 90 rfl ?_
      refine z_eqS (sMw_0 T (a + sRed n) (fun k => T 3 (sN S 15 b + k))).symm ?_
      have fin : Z X MX11_resize (4, 210, h.2.1, h.2.2) (zr X h m (sMw T (a + sRed n) (min n (sN S 16 b)) (fun k => T 3 (sN S 15 b + k)))) 126 [some (.ref m), some (.int p), some (.int (nI n)), some (.int r), some (.int (nI b)), some (.int (nI (a + sRed n))), some (.int (nI (min n (sN S 16 b))))] [.int r, .int (nI b), .ref m] (zX (zr X h m (sGoes (sMw T (a + sRed n) (min n (sN S 16 b)) (fun k => T 3 (sN S 15 b + k))) b r)) (some (.int (nI (a + sRed n))))) := by
        refine z_cV zr_o (rc_goes G (sMw_inv J (fun k hk => J.2.2.2.2.2.2.2.1 _)) (c' := cc + 1) (b := b) (site := r) j5 j4 (by show sN T 25 0 + 1 ≤ _; omega) (by omega) (by omega)) KX11_goes IX11_goes VX11_goes rfl rfl rfl PX11_goes rfl rfl rfl rfl ?_
        refine z_go 90 rfl ?_
        exact z_iret rfl rfl ⟨rfl, rfl⟩
      have H := zdown (P := fun k => Z X MX11_resize (4, 210, h.2.1, h.2.2) (zr X h m (sMw T (a + sRed n) k (fun k => T 3 (sN S 15 b + k)))) 76 [some (.ref m), some (.int p), some (.int (nI n)), some (.int r), some (.int (nI b)), some (.int (nI (a + sRed n))), some (.int (nI k))] [.int (nI n), .int (nI k)] (zX (zr X h m (sGoes (sMw T (a + sRed n) (min n (sN S 16 b)) (fun k => T 3 (sN S 15 b + k))) b r)) (some (.int (nI (a + sRed n)))))) (min n (sN S 16 b)) (fun k hk ih => ?_) 0 (Nat.zero_le _)
      · exact H
      refine z_br rfl rfl (fun d => ?_) (fun d => ?_) <;> (try dsimp only at d)
      · rw [n_le (by omega) (by omega)] at d
        have : k = min n (sN S 16 b) := by omega
        subst this
        refine z_go 90 rfl ?_
        exact fin
      rw [n_le (by omega) (by omega)] at d
      refine z_go 90 rfl ?_
      refine z_get zr_o rfl rfl rfl rfl ?_
      refine z_go 90 rfl ?_
      refine r_lv16 b e16 (i_nI (by omega)) (by omega) rfl ?_
      refine z_go 90 rfl ?_
      refine z_br rfl rfl (fun e => ?_) (fun e => ?_) <;> (try dsimp only at e)
      · rw [n_le (by omega) (by omega)] at e
        have : k = min n (sN S 16 b) := by omega
        subst this
        refine z_go 90 rfl ?_
        exact fin
      rw [n_le (by omega) (by omega)] at e
      refine z_go 90 rfl ?_
      refine z_get zr_o rfl rfl rfl rfl ?_
      refine z_go 90 rfl ?_
      rw [n_add]
      refine z_get zr_o rfl rfl rfl rfl ?_
      refine z_go 90 rfl ?_
      refine z_get zr_o rfl rfl rfl rfl ?_
      refine z_go 90 rfl ?_
      refine r_lv15 b e15 (i_nI (by omega)) (by omega) rfl ?_
      refine z_go 90 rfl ?_
      rw [n_add]
      refine r_lv3 (sN S 15 b + k) (show (if a + sRed n ≤ sN S 15 b + k ∧ sN S 15 b + k < a + sRed n + k then _ else T 3 (sN S 15 b + k)) = T 3 (sN S 15 b + k) from if_neg (by omega)) (i_nI (by omega)) (by omega) rfl ?_
      refine z_go 90 rfl ?_
      refine r_st3 (a + sRed n + k) (i_nI (by omega)) (by omega) rfl ?_
      refine z_go 90 rfl ?_
      rw [show nI k + (1 : Int32) = nI (k + 1) from n_succ k]
      refine z_eqS (sMw_s _ _ _ _ ?_) (ih (by omega))
      exact J.2.2.2.2.2.2.2.1 _
    · rw [show (0 : Int32) = nI 0 from rfl, n_le (by omega) (by omega)] at c
      omega
theorem rc_resize (G : zG X) (I : sInv S cc) (hcc : cc < 512) (p q r : Int32) : ZM X MX11_resize 4 210 [.ref m, .int p, .int q, .int r] (zr X h m S) (zX (zr X h m (sRes S p q r).2) (some (.int (sRes S p q r).1))) := by
  have N2 := I.2.1.2.1
  have t0 : (0 : Int32).toInt = 0 := rfl
  have t1 := i_nI (n := sN S 1 0) (by omega)
  have bad : (q.toInt < 0 ∨ (sN S 1 0 : Int) < q.toInt) → Z X MX11_resize (4, 210, h.2.1, h.2.2) (zr X h m S) 18 [some (.ref m), some (.int p), some (.int q), some (.int r), none, none, none] [.int 1, .ref m] (zX (zr X h m (sRes S p q r).2) (some (.int (sRes S p q r).1))) := by
    intro hb
    refine rr_yes G (by decide) rfl rfl rfl rfl rfl ?_
    refine z_go 90 rfl ?_
    refine z_iret rfl rfl ?_
    unfold sRes
    rw [zif_pos hb]
    exact ⟨rfl, rfl⟩
  refine zm_of_z G KX11_resize rfl rfl ?_
  refine z_go 90 rfl ?_
  refine z_br rfl rfl (fun e1 => ?_) (fun e1 => ?_) <;> (try dsimp only at e1)
  · rw [i_lt] at e1
    refine z_go 90 rfl ?_
    exact bad (by omega)
  rw [i_lt] at e1
  refine z_go 90 rfl ?_
  refine r_v1 (sN_eq I.1 rfl) rfl rfl rfl ?_
  refine z_go 90 rfl ?_
  refine z_br rfl rfl (fun e2 => ?_) (fun e2 => ?_) <;> (try dsimp only at e2)
  case _ =>
    rw [i_le] at e2
    refine z_go 90 rfl ?_
    refine rr_no G rfl rfl rfl rfl rfl ?_
    have hS : sRes S p q r = _ := zif_neg (by omega)
    rw [hS]
    obtain ⟨n, rfl, hn⟩ := i_nat (x := q) (by omega)
    rw [i_nI hn] at e2 ⊢
    rw [Int.toNat_natCast]
    refine z_go 90 rfl ?_
    refine z_br rfl rfl (fun e3 => ?_) (fun e3 => ?_) <;> (try dsimp only at e3)
    · rw [zif_neg e3]
      refine z_go 90 rfl ?_
      refine z_cV zr_o (rc_mayGo G (sInv_T I 0 (by decide)) 0 p) KX11_mayGo IX11_mayGo VX11_mayGo rfl rfl rfl PX11_mayGo rfl rfl rfl rfl ?_
      refine z_go 90 rfl ?_
      cases hm : (sMay (sThrow S 0) 0 p).1 with
      | some b =>
        obtain ⟨m1, m2, m3, m4, m5⟩ := sMay_s hm
        have m2' : b < sN S 23 0 := m2
        have m4' : S 18 b = 0 := m4
        have hbb := I.2.2.2.2.2.2.2.2.2.1
        have hbc := I.2.2.2.2.2.2.2.2.1
        rw [m1]
        show Z X MX11_resize _ _ _ [_, _, _, _, some (.int (nI b)), _, _] [.int (nI b)] _
        refine z_br rfl rfl (fun k => ?_) (fun k => ?_) <;> (try dsimp only at k)
        · refine z_go 90 rfl ?_
          exact rc_res2 (h := h) (m := m) G (sInv_T I 0 (by decide)) (by omega) p r b n m2 (by show (S 18 b).toInt.toNat = 0; rw [m4']; rfl) (by show n ≤ sN S 1 0; omega)
        · rw [show (0 : Int32) = nI 0 from rfl, n_le (by omega) (by omega)] at k
          omega
      | none =>
        show Z X MX11_resize _ _ _ [_, _, _, _, some (.int (-1)), _, _] [.int (-1)] _
        refine z_br rfl rfl (fun c => absurd c (by first | decide | (dsimp only; decide))) (fun _ => ?_)
        refine z_go 90 rfl ?_
        exact z_iret rfl rfl ⟨rfl, rfl⟩
    · rw [zif_pos e3]
      refine z_go 90 rfl ?_
      refine z_cV zr_o (rc_given G (sInv_T I 0 (by decide)) 0 r n (by show n ≤ sN S 1 0; omega)) KX11_given IX11_given VX11_given rfl rfl rfl PX11_given rfl rfl rfl rfl ?_
      refine z_go 90 rfl ?_
      exact z_iret rfl rfl ⟨rfl, rfl⟩
  · rw [i_le] at e2
    refine z_go 90 rfl ?_
    exact bad (by omega)
end ZRZ
