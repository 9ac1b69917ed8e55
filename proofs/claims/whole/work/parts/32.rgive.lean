section ZGI
variable {X : zCx} {h : zHp} {m : Nat} {S : zS} {cc : Nat}
def sHB (S : zS) : Nat := zSum (fun i => sN S 20 (sN S 24 i)) (sN S 25 0)
theorem sHB_le {S : zS} {c : Nat} (I : sInv S c) : sHB S ≤ 5200000 := by
  obtain ⟨I0, In, Ig, If, Ib, Iq, Ih, Im, Ic⟩ := I
  have := zSum_le (g := fun i => sN S 20 (sN S 24 i)) (b := 10000) (fun i => by have := sN_lt I0 (k := 20) (i := sN S 24 i) rfl; show sN S 20 (sN S 24 i) ≤ 10000; omega) (sN S 25 0)
  obtain ⟨c1, c2, c3, c4⟩ := Ic
  unfold sHB
  omega
theorem rc_heldBytes (G : zG X) (I : sInv S cc) : ZM X MX11_heldBytes 0 100 [.ref m] (zr X h m S) (zX (zr X h m S) (some (.int (nI (sHB S))))) := by
  obtain ⟨I0, In, Ig, If, Ib, Iq, Ih, Im, Ic⟩ := I
  have e25 : S 25 0 = nI (sN S 25 0) := sN_eq I0 rfl
  obtain ⟨c1, c2, c3, c4⟩ := Ic
  refine zm_of_z G KX11_heldBytes rfl rfl ?_
  refine z_go 90 rfl ?_
  refine r_v25 e25 rfl rfl rfl ?_
  refine z_go 90 rfl ?_
  have H := zdown (P := fun k => Z X MX11_heldBytes (0, 100, (zr X h m S).2.1, (zr X h m S).2.2) (zr X h m S) 9 [some (.ref m), some (.int (nI (zSum (fun i => sN S 20 (sN S 24 i)) k))), some (Value.int (nI k))] [.int (nI (sN S 25 0)), .int (nI k)] (zX (zr X h m S) (some (.int (nI (sHB S)))))) (sN S 25 0) (fun k hk ih => ?_) 0 (Nat.zero_le _)
  · exact H
  refine z_br rfl rfl (fun c => ?_) (fun c => ?_) <;> (try dsimp only at c)
  · rw [n_le (by omega) (by omega)] at c
    have : k = sN S 25 0 := by omega
    subst this
    refine z_go 90 rfl ?_
    exact z_iret rfl rfl ⟨rfl, rfl⟩
  · rw [n_le (by omega) (by omega)] at c
    obtain ⟨q1, q2⟩ := Iq.1 k (by omega)
    refine z_go 90 rfl ?_
    refine z_get zr_o rfl rfl rfl rfl ?_
    refine z_go 90 rfl ?_
    refine z_get zr_o rfl rfl rfl rfl ?_
    refine z_go 90 rfl ?_
    refine r_lv24 k (sN_eq I0 rfl) (i_nI (by omega)) (by omega) rfl ?_
    refine z_go 90 rfl ?_
    refine r_lv20 (sN S 24 k) (sN_eq I0 rfl) (i_nI (by omega)) (by omega) rfl ?_
    refine z_go 90 rfl ?_
    rw [n_add, show nI k + (1 : Int32) = nI (k + 1) from n_succ k]
    refine r_v25 e25 rfl rfl rfl ?_
    refine z_go 90 rfl ?_
    exact ih (by omega)
noncomputable def sBIn (S : zS) (p st : Int32) : Option Nat := zFst (fun k => S 15 k = p ∧ S 18 k = st) (sN S 23 0)
theorem rc_blockIn (G : zG X) (I : sInv S cc) (p st : Int32) : ZM X MX11_blockIn 0 100 [.ref m, .int p, .int st] (zr X h m S) (zX (zr X h m S) (some (.int (zoI (sBIn S p st))))) := by
  obtain ⟨I0, In, Ig, If, Ib, Iq, Ih, Im, Ic⟩ := I
  have e23 : S 23 0 = nI (sN S 23 0) := sN_eq I0 rfl
  obtain ⟨c1, c2, c3, c4⟩ := Ic
  refine zm_of_z G KX11_blockIn rfl rfl ?_
  refine z_go 90 rfl ?_
  refine r_v23 e23 rfl rfl rfl ?_
  refine z_go 90 rfl ?_
  have H := zdown (P := fun k => (∀ j, j < k → ¬ (S 15 j = p ∧ S 18 j = st)) → Z X MX11_blockIn (0, 100, (zr X h m S).2.1, (zr X h m S).2.2) (zr X h m S) 7 [some (.ref m), some (.int p), some (.int st), some (Value.int (nI k))] [.int (nI (sN S 23 0)), .int (nI k)] (zX (zr X h m S) (some (.int (zoI (sBIn S p st)))))) (sN S 23 0) (fun k hk ih hp => ?_) 0 (Nat.zero_le _) (fun j hj => by omega)
  · exact H
  refine z_br rfl rfl (fun c => ?_) (fun c => ?_) <;> (try dsimp only at c)
  · rw [n_le (by omega) (by omega)] at c
    refine z_go 90 rfl ?_
    have : sBIn S p st = none := zFst_none.mpr (fun j hj => hp j (by omega))
    rw [this]
    exact z_iret rfl rfl ⟨rfl, rfl⟩
  · rw [n_le (by omega) (by omega)] at c
    have go : ¬ (S 15 k = p ∧ S 18 k = st) → Z X MX11_blockIn (0, 100, (zr X h m S).2.1, (zr X h m S).2.2) (zr X h m S) 32 [some (.ref m), some (.int p), some (.int st), some (Value.int (nI k))] [] (zX (zr X h m S) (some (.int (zoI (sBIn S p st))))) := by
      intro hgo
      refine z_go 90 rfl ?_
      rw [show nI k + (1 : Int32) = nI (k + 1) from n_succ k]
      refine r_v23 e23 rfl rfl rfl ?_
      refine z_go 90 rfl ?_
      refine ih (by omega) (fun j hj => ?_)
      by_cases e : j = k
      · subst e; exact hgo
      · exact hp j (by omega)
    refine z_go 90 rfl ?_
    refine z_get zr_o rfl rfl rfl rfl ?_
    refine z_go 90 rfl ?_
    refine r_ld15 k (i_nI (by omega)) (by omega) rfl ?_
    refine z_go 90 rfl ?_
    refine z_br rfl rfl (fun d => ?_) (fun d => ?_) <;> (try dsimp only at d)
    · exact go (fun z => d z.1)
    · refine z_go 90 rfl ?_
      refine z_get zr_o rfl rfl rfl rfl ?_
      refine z_go 90 rfl ?_
      refine r_ld18 k (i_nI (by omega)) (by omega) rfl ?_
      refine z_go 90 rfl ?_
      refine z_br rfl rfl (fun e => ?_) (fun e => ?_) <;> (try dsimp only at e)
      · exact go (fun z => e z.2)
      · refine z_go 90 rfl ?_
        have : sBIn S p st = some k := zFst_some.mpr ⟨by omega, ⟨d, e⟩, hp⟩
        rw [this]
        exact z_iret rfl rfl ⟨rfl, rfl⟩
/-- places made by letting the oldest go -/
noncomputable def sMake (n : Nat) : Nat → zS → zS × Option Nat
  | 0, S => (S, sPlace S n)
  | k + 1, S => match sPlace S n with
    | some a => (S, some a)
    | none => sMake n k (sOld S)
theorem sMake_inv {n c : Nat} : ∀ (k : Nat) (S : zS), sInv S c → k = sN S 25 0 → sInv (sMake n k S).1 c ∧ (sMake n k S).2 = sPlace (sMake n k S).1 n ∧ sN (sMake n k S).1 1 0 = sN S 1 0 ∧ sN (sMake n k S).1 23 0 = sN S 23 0 := by
  intro k
  induction k with
  | zero => intro S I h; exact ⟨I, rfl, rfl, rfl⟩
  | succ k ih =>
    intro S I h
    unfold sMake
    cases hq : sPlace S n with
    | some a => exact ⟨I, hq.symm, rfl, rfl⟩
    | none =>
      obtain ⟨a1, a2, a3, a4⟩ := ih (sOld S) (sOld_inv I (by omega)) (by rw [sOld_25 I.1]; omega)
      exact ⟨a1, a2, a3, a4⟩
theorem sPlace_some {n a : Nat} (hq : sPlace S n = some a) : ∃ i, a = sN S 1 0 / 4 + 16 * i ∧ a + n ≤ sN S 1 0 ∧ sFree S a n := by
  unfold sPlace at hq
  cases hz : zFst (sOkP S n) (sN S 1 0) with
  | none => rw [hz] at hq; cases hq
  | some i =>
    rw [hz] at hq
    cases hq
    obtain ⟨-, h2, -⟩ := zFst_some.mp hz
    exact ⟨i, rfl, h2.1, h2.2⟩
def sGive (S : zS) (kd : Int32) (n : Nat) (site : Int32) (a : Nat) : zS :=
  sOpen (sPaint (zV (zV (zV (zV (zV (zV (zV (zV (zV (zV S 23 (fun _ => nI (sN S 23 0 + 1))) 19 (upd (S 19) (sN S 23 0) (nI a))) 20 (upd (S 20) (sN S 23 0) (nI (sCh n)))) 15 (upd (S 15) (sN S 23 0) (nI (a + sRed n)))) 16 (upd (S 16) (sN S 23 0) (nI n))) 17 (upd (S 17) (sN S 23 0) kd)) 18 (upd (S 18) (sN S 23 0) 0)) 21 (upd (S 21) (sN S 23 0) site)) 22 (upd (S 22) (sN S 23 0) 0)) 3 (fun i => if a + sRed n ≤ i ∧ i < a + sRed n + n then -66 else S 3 i)) a (a + sCh n) 250) (a + sRed n) n
noncomputable def sGivenB (S : zS) (kd : Int32) (n : Nat) (site : Int32) : Int32 × zS := match (sMake (sCh n) (sN S 25 0) S).2 with
  | none => (-1, (sMake (sCh n) (sN S 25 0) S).1)
  | some a => (nI (a + sRed n), sGive (sMake (sCh n) (sN S 25 0) S).1 kd n site a)
theorem sRed_b (n : Nat) : 16 ≤ sRed n ∧ sRed n ≤ 128 ∧ sRed n % 16 = 0 := by unfold sRed; split <;> (try split) <;> (try split) <;> decide
theorem sCh_b (n : Nat) : n + sRed n + 16 ≤ sCh n ∧ sCh n % 16 = 0 ∧ sCh n ≤ n + sRed n + 31 := by
  have := sRed_b n
  unfold sCh
  omega
/-- the block is made -/
theorem rc_given2 (G : zG X) (I : sInv S cc) (kd site : Int32) (n a : Nat) (hn : n ≤ 8192) (ha : a + sCh n ≤ 8192) (ha8 : a % 8 = 0) (o6 o7 : Option Value) : Z X MX11_given (2, 154, h.2.1, h.2.2) (zr X h m S) 64 [some (.ref m), some (.int kd), some (.int (nI n)), some (.int site), some (.int (nI (sCh n))), some (.int (nI a)), o6, o7] [.ref m, .ref m] (zX (zr X h m (sGive S kd n site a)) (some (.int (nI (a + sRed n))))) := by
  obtain ⟨I0, In, Ig, If, Ib, Iq, Ih, Im, Ic⟩ := I
  obtain ⟨c1, c2, c3, c4⟩ := Ic
  have e23 : S 23 0 = nI (sN S 23 0) := sN_eq I0 rfl
  have hr := sRed_b n
  have hc := sCh_b n
  refine r_v23 e23 rfl rfl rfl ?_
  refine z_go 90 rfl ?_
  rw [show nI (sN S 23 0) + (1 : Int32) = nI (sN S 23 0 + 1) from n_succ _]
  refine r_p23 rfl rfl rfl ?_
  refine z_go 90 rfl ?_
  refine z_get zr_o rfl rfl rfl rfl ?_
  refine z_go 90 rfl ?_
  refine r_st19 (sN S 23 0) (i_nI (by omega)) (by omega) rfl ?_
  refine z_go 90 rfl ?_
  refine z_get zr_o rfl rfl rfl rfl ?_
  refine z_go 90 rfl ?_
  refine r_st20 (sN S 23 0) (i_nI (by omega)) (by omega) rfl ?_
  refine z_go 90 rfl ?_
  refine z_get zr_o rfl rfl rfl rfl ?_
  refine z_go 90 rfl ?_
  refine z_cS (rc_redzone G n (by omega)) KX11_redzone SX11_redzone rfl rfl PX11_redzone rfl rfl rfl rfl ?_
  refine z_go 90 rfl ?_
  rw [n_add]
  refine r_st15 (sN S 23 0) (i_nI (by omega)) (by omega) rfl ?_
  refine z_go 90 rfl ?_
  refine z_get zr_o rfl rfl rfl rfl ?_
  refine z_go 90 rfl ?_
  refine r_st16 (sN S 23 0) (i_nI (by omega)) (by omega) rfl ?_
  refine z_go 90 rfl ?_
  refine z_get zr_o rfl rfl rfl rfl ?_
  refine z_go 90 rfl ?_
  refine r_st17 (sN S 23 0) (i_nI (by omega)) (by omega) rfl ?_
  refine z_go 90 rfl ?_
  refine z_get zr_o rfl rfl rfl rfl ?_
  refine z_go 90 rfl ?_
  refine r_st18 (sN S 23 0) (i_nI (by omega)) (by omega) rfl ?_
  refine z_go 90 rfl ?_
  refine z_get zr_o rfl rfl rfl rfl ?_
  refine z_go 90 rfl ?_
  refine r_st21 (sN S 23 0) (i_nI (by omega)) (by omega) rfl ?_
  refine z_go 90 rfl ?_
  refine z_get zr_o rfl rfl rfl rfl ?_
  refine z_go 90 rfl ?_
  refine r_st22 (sN S 23 0) (i_nI (by omega)) (by omega) rfl ?_
  refine z_go 90 rfl ?_
  have e15 : (upd (S 15) (sN S 23 0) (nI (a + sRed n))) (sN S 23 0) = nI (a + sRed n) := if_pos rfl
  refine z_eqS (S' := zV (zV (zV (zV (zV (zV (zV (zV (zV (zV S 23 (fun _ => nI (sN S 23 0 + 1))) 19 (upd (S 19) (sN S 23 0) (nI a))) 20 (upd (S 20) (sN S 23 0) (nI (sCh n)))) 15 (upd (S 15) (sN S 23 0) (nI (a + sRed n)))) 16 (upd (S 16) (sN S 23 0) (nI n))) 17 (upd (S 17) (sN S 23 0) kd)) 18 (upd (S 18) (sN S 23 0) 0)) 21 (upd (S 21) (sN S 23 0) site)) 22 (upd (S 22) (sN S 23 0) 0)) 3 (fun i => if a + sRed n ≤ i ∧ i < a + sRed n + 0 then -66 else S 3 i)) ?_ ?_
  · rw [show (fun i => if a + sRed n ≤ i ∧ i < a + sRed n + 0 then (-66 : Int32) else S 3 i) = S 3 from funext fun i => if_neg (by omega)]
    exact (zV_same _ 3).symm
  have H := zdown (P := fun k => Z X MX11_given (2, 154, h.2.1, h.2.2) (zr X h m (zV (zV (zV (zV (zV (zV (zV (zV (zV (zV S 23 (fun _ => nI (sN S 23 0 + 1))) 19 (upd (S 19) (sN S 23 0) (nI a))) 20 (upd (S 20) (sN S 23 0) (nI (sCh n)))) 15 (upd (S 15) (sN S 23 0) (nI (a + sRed n)))) 16 (upd (S 16) (sN S 23 0) (nI n))) 17 (upd (S 17) (sN S 23 0) kd)) 18 (upd (S 18) (sN S 23 0) 0)) 21 (upd (S 21) (sN S 23 0) site)) 22 (upd (S 22) (sN S 23 0) 0)) 3 (fun i => if a + sRed n ≤ i ∧ i < a + sRed n + k then -66 else S 3 i))) 153 [some (.ref m), some (.int kd), some (.int (nI n)), some (.int site), some (.int (nI (sCh n))), some (.int (nI a)), some (.int (nI (sN S 23 0))), some (.int (nI k))] [.int (nI n), .int (nI k)] (zX (zr X h m (sGive S kd n site a)) (some (.int (nI (a + sRed n)))))) n (fun k hk ih => ?_) 0 (Nat.zero_le _)
  · exact H
  refine z_br rfl rfl (fun c => ?_) (fun c => ?_) <;> (try dsimp only at c)
  · rw [n_le (by omega) (by omega)] at c
    have : k = n := by omega
    subst this
    refine z_go 90 rfl ?_
    rw [n_add]
    refine z_cV zr_o (rc_paint G a (a + sCh k) 250 (by omega) (by omega)) KX11_paint IX11_paint VX11_paint rfl rfl rfl PX11_paint rfl rfl rfl rfl ?_
    refine z_go 90 rfl ?_
    refine z_get zr_o rfl rfl rfl rfl ?_
    refine z_go 90 rfl ?_
    refine r_lv15 (sN S 23 0) e15 (i_nI (by omega)) (by omega) rfl ?_
    refine z_go 90 rfl ?_
    refine z_cV zr_o (rc_opens G (a + sRed k) k (by omega) (by omega)) KX11_opens IX11_opens VX11_opens rfl rfl rfl PX11_opens rfl rfl rfl rfl ?_
    refine z_go 90 rfl ?_
    refine z_get zr_o rfl rfl rfl rfl ?_
    refine z_go 90 rfl ?_
    refine r_lv15 (sN S 23 0) e15 (i_nI (by omega)) (by omega) rfl ?_
    refine z_go 90 rfl ?_
    exact z_iret rfl rfl ⟨rfl, rfl⟩
  · rw [n_le (by omega) (by omega)] at c
    refine z_go 90 rfl ?_
    refine z_get zr_o rfl rfl rfl rfl ?_
    refine z_go 90 rfl ?_
    refine z_get zr_o rfl rfl rfl rfl ?_
    refine z_go 90 rfl ?_
    refine r_lv15 (sN S 23 0) e15 (i_nI (by omega)) (by omega) rfl ?_
    refine z_go 90 rfl ?_
    rw [n_add]
    refine r_st3 (a + sRed n + k) (i_nI (by omega)) (by omega) rfl ?_
    refine z_go 90 rfl ?_
    rw [show nI k + (1 : Int32) = nI (k + 1) from n_succ k]
    refine z_eqS ?_ (ih (by omega))
    rw [zV_V]
    refine congrArg (zV (zV (zV (zV (zV (zV (zV (zV (zV (zV S 23 (fun _ => nI (sN S 23 0 + 1))) 19 (upd (S 19) (sN S 23 0) (nI a))) 20 (upd (S 20) (sN S 23 0) (nI (sCh n)))) 15 (upd (S 15) (sN S 23 0) (nI (a + sRed n)))) 16 (upd (S 16) (sN S 23 0) (nI n))) 17 (upd (S 17) (sN S 23 0) kd)) 18 (upd (S 18) (sN S 23 0) 0)) 21 (upd (S 21) (sN S 23 0) site)) 22 (upd (S 22) (sN S 23 0) 0)) 3) (funext fun i => ?_)
    show (if i = a + sRed n + k then (-66 : Int32) else if a + sRed n ≤ i ∧ i < a + sRed n + k then -66 else S 3 i) = _
    by_cases c1 : i = a + sRed n + k
    · rw [if_pos c1, if_pos (by omega)]
    · by_cases c2 : a + sRed n ≤ i ∧ i < a + sRed n + k
      · rw [if_neg c1, if_pos c2, if_pos (by omega)]
      · rw [if_neg c1, if_neg c2, if_neg (by omega)]
theorem rc_given (G : zG X) (I : sInv S cc) (kd site : Int32) (n : Nat) (hn : n ≤ sN S 1 0) : ZM X MX11_given 2 154 [.ref m, .int kd, .int (nI n), .int site] (zr X h m S) (zX (zr X h m (sGivenB S kd n site).2) (some (.int (sGivenB S kd n site).1))) := by
  have N2 := I.2.1.2.1
  have N3 := I.2.1.2.2.1
  have hr := sRed_b n
  have hc := sCh_b n
  refine zm_of_z G KX11_given rfl rfl ?_
  refine z_go 90 rfl ?_
  refine z_cS (rc_redzone G n (by omega)) KX11_redzone SX11_redzone rfl rfl PX11_redzone rfl rfl rfl rfl ?_
  refine z_go 90 rfl ?_
  refine z_div rfl (by decide) ?_
  refine z_go 90 rfl ?_
  have e : nI (sRed n) + (nI n + 15) / 16 * 16 + 16 = nI (sCh n) := by
    rw [show (15 : Int32) = nI 15 from rfl, show (16 : Int32) = nI 16 from rfl, n_add, n_div (by omega) (by omega) (by omega), n_mul, n_add, n_add]
    rfl
  refine z_cong (L' := [some (.ref m), some (.int kd), some (.int (nI n)), some (.int site), some (.int (nI (sCh n))), none, none, none]) (st' := [.int (nI (sCh n)), .ref m]) rfl (by rw [← e]) (by rw [← e]; rfl) ?_
  refine z_cV zr_o (rc_placeFor G I (sCh n) (by omega)) KX11_placeFor IX11_placeFor VX11_placeFor rfl rfl rfl PX11_placeFor rfl rfl rfl rfl ?_
  refine z_go 90 rfl ?_
  have H : ∀ k (T : zS), sInv T cc → k = sN T 25 0 → sN T 1 0 = sN S 1 0 → sGivenB T kd n site = sGivenB S kd n site → Z X MX11_given (2, 154, h.2.1, h.2.2) (zr X h m T) 30 [some (.ref m), some (.int kd), some (.int (nI n)), some (.int site), some (.int (nI (sCh n))), some (.int (zoI (sPlace T (sCh n)))), none, none] [.int (zoI (sPlace T (sCh n)))] (zX (zr X h m (sGivenB S kd n site).2) (some (.int (sGivenB S kd n site).1))) := by
    intro k
    induction k with
    | zero =>
      intro T IT hT hN hG
      rw [← hG]
      have hm : sMake (sCh n) (sN T 25 0) T = (T, sPlace T (sCh n)) := by rw [← hT]; rfl
      cases hq : sPlace T (sCh n) with
      | some a =>
        obtain ⟨i, hi, hb, -⟩ := sPlace_some hq
        have hB : sGivenB T kd n site = (nI (a + sRed n), sGive T kd n site a) := by unfold sGivenB; rw [hm, hq]
        rw [hB]
        show Z X MX11_given _ _ _ [_, _, _, _, _, some (.int (nI a)), _, _] [.int (nI a)] _
        refine z_br rfl rfl (fun c => ?_) (fun c => ?_) <;> (try dsimp only at c)
        · refine z_go 90 rfl ?_
          refine z_br rfl rfl (fun d => ?_) (fun d => ?_) <;> (try dsimp only at d)
          · refine z_go 90 rfl ?_
            exact rc_given2 G IT kd site n a (by omega) (by omega) (by omega) none none
          · rw [show (0 : Int32) = nI 0 from rfl, n_le (by omega) (by omega)] at d
            omega
        · rw [show (0 : Int32) = nI 0 from rfl, n_le (by omega) (by omega)] at c
          omega
      | none =>
        have hB : sGivenB T kd n site = (-1, T) := by unfold sGivenB; rw [hm, hq]
        rw [hB]
        show Z X MX11_given _ _ _ [_, _, _, _, _, some (.int (-1)), _, _] [.int (-1)] _
        refine z_br rfl rfl (fun c => absurd c (by first | decide | (dsimp only; decide))) (fun _ => ?_)
        refine z_go 90 rfl ?_
        refine r_v25 (show T 25 0 = nI 0 by rw [sN_eq IT.1 (k := 25) (i := 0) rfl, ← hT]) rfl rfl rfl ?_
        refine z_go 90 rfl ?_
        refine z_br rfl rfl (fun _ => ?_) (fun c => absurd c (by first | decide | (dsimp only; decide)))
        refine z_go 90 rfl ?_
        refine z_br rfl rfl (fun c => absurd c (by first | decide | (dsimp only; decide))) (fun _ => ?_)
        refine z_go 90 rfl ?_
        exact z_iret rfl rfl ⟨rfl, rfl⟩
    | succ k ih =>
      intro T IT hT hN hG
      cases hq : sPlace T (sCh n) with
      | some a =>
        obtain ⟨i, hi, hb, -⟩ := sPlace_some hq
        have hm : sMake (sCh n) (sN T 25 0) T = (T, some a) := by rw [← hT]; unfold sMake; rw [hq]
        have hB : sGivenB T kd n site = (nI (a + sRed n), sGive T kd n site a) := by unfold sGivenB; rw [hm]
        rw [← hG, hB]
        show Z X MX11_given _ _ _ [_, _, _, _, _, some (.int (nI a)), _, _] [.int (nI a)] _
        refine z_br rfl rfl (fun c => ?_) (fun c => ?_) <;> (try dsimp only at c)
        · refine z_go 90 rfl ?_
          refine z_br rfl rfl (fun d => ?_) (fun d => ?_) <;> (try dsimp only at d)
          · refine z_go 90 rfl ?_
            exact rc_given2 G IT kd site n a (by omega) (by omega) (by omega) none none
          · rw [show (0 : Int32) = nI 0 from rfl, n_le (by omega) (by omega)] at d
            omega
        · rw [show (0 : Int32) = nI 0 from rfl, n_le (by omega) (by omega)] at c
          omega
      | none =>
        have hh : 0 < sN T 25 0 := by omega
        have IO := sOld_inv IT hh
        have h25 := sOld_25 IT.1
        show Z X MX11_given _ _ _ [_, _, _, _, _, some (.int (-1)), _, _] [.int (-1)] _
        refine z_br rfl rfl (fun c => absurd c (by first | decide | (dsimp only; decide))) (fun _ => ?_)
        refine z_go 90 rfl ?_
        refine r_v25 (sN_eq IT.1 (k := 25) (i := 0) rfl) rfl rfl rfl ?_
        refine z_go 90 rfl ?_
        have l25 := sN_lt IT.1 (k := 25) (i := 0) rfl
        refine z_br rfl rfl (fun c => ?_) (fun c => ?_) <;> (try dsimp only at c)
        · rw [show (0 : Int32) = nI 0 from rfl, n_le (by omega) (by omega)] at c
          omega
        · refine z_go 90 rfl ?_
          refine z_cV zr_o (rc_old G IT hh) KX11_oldestLeaves IX11_oldestLeaves VX11_oldestLeaves rfl rfl rfl PX11_oldestLeaves rfl rfl rfl rfl ?_
          refine z_go 90 rfl ?_
          refine z_cV zr_o (rc_placeFor G IO (sCh n) (by omega)) KX11_placeFor IX11_placeFor VX11_placeFor rfl rfl rfl PX11_placeFor rfl rfl rfl rfl ?_
          refine z_go 90 rfl ?_
          refine ih (sOld T) IO (by omega) hN ?_
          rw [← hG]
          have hm : sMake (sCh n) (sN T 25 0) T = sMake (sCh n) (sN (sOld T) 25 0) (sOld T) := by
            rw [h25, ← hT]
            show sMake (sCh n) (k + 1) T = _
            rw [show k + 1 - 1 = k by omega]
            show (match sPlace T (sCh n) with
              | some a => (T, some a)
              | none => sMake (sCh n) k (sOld T)) = _
            rw [hq]
          unfold sGivenB
          rw [← hm]
  exact H (sN S 25 0) S I rfl rfl rfl
end ZGI
