theorem b_idem (x : Int32) : x.toInt8.toInt32.toInt8.toInt32 = x.toInt8.toInt32 := by rw [Int8.toInt8_toInt32]
def sMw (S : zS) (a n : Nat) (g : Nat → Int32) : zS := zV S 3 (fun i => if a ≤ i ∧ i < a + n then g (i - a) else S 3 i)
theorem sMw_0 (S : zS) (a : Nat) (g : Nat → Int32) : sMw S a 0 g = S := by
  unfold sMw
  rw [show (fun i => if a ≤ i ∧ i < a + 0 then g (i - a) else S 3 i) = S 3 from funext fun i => if_neg (by omega)]
  exact zV_same S 3
theorem sMw_s (S : zS) (a k : Nat) (g : Nat → Int32) {x : Int32} (e : x = g k) : zV (sMw S a k g) 3 (upd (sMw S a k g 3) (a + k) x) = sMw S a (k + 1) g := by
  subst e
  unfold sMw
  rw [zV_V]
  refine congrArg (zV S 3) (funext fun i => ?_)
  show (if i = a + k then g k else if a ≤ i ∧ i < a + k then g (i - a) else S 3 i) = if a ≤ i ∧ i < a + (k + 1) then g (i - a) else S 3 i
  by_cases c1 : i = a + k
  · rw [if_pos c1, if_pos (show a ≤ i ∧ i < a + (k + 1) by omega), show i - a = k by omega]
  · rw [if_neg c1]
    by_cases c2 : a ≤ i ∧ i < a + k
    · rw [if_pos c2, if_pos (show a ≤ i ∧ i < a + (k + 1) by omega)]
    · rw [if_neg c2, if_neg (show ¬ (a ≤ i ∧ i < a + (k + 1)) by omega)]
theorem sMw_w {S : zS} {a n : Nat} {g g' : Nat → Int32} (h : ∀ k, k < n → g k = g' k) : sMw S a n g = sMw S a n g' := by
  unfold sMw
  refine congrArg (zV S 3) (funext fun i => ?_)
  by_cases c : a ≤ i ∧ i < a + n
  · rw [if_pos c, if_pos c]; exact h _ (by omega)
  · rw [if_neg c, if_neg c]
theorem sRight_n {S : zS} {p : Int32} {a b : Nat} {many wr : Int32} (h : sFw S p a b = none) : sRight S p a b many wr = (1, S) := by unfold sRight; rw [h]
theorem sRight_s {S : zS} {p : Int32} {a b k : Nat} {many wr : Int32} (h : sFw S p a b = some k) : sRight S p a b many wr = (0, sTells S (nI (sWr S (p.toInt + k))) (p.toInt + k) (p + nI k) many wr) := by unfold sRight; rw [h]
theorem sFw_n {S : zS} {p : Int32} {a b : Nat} (h : sFw S p a b = none) (k : Nat) (h1 : a ≤ k) (h2 : k < b) : sWr S (p.toInt + k) = 0 := by
  unfold sFw at h
  cases hq : zFst (fun i => sWr S (p.toInt + (a + i : Nat)) ≠ 0) (b - a) with
  | some i => rw [hq] at h; cases h
  | none =>
    have := zFst_none.mp hq (k - a) (by omega)
    rw [show a + (k - a) = k by omega] at this
    exact Decidable.not_not.mp this
theorem sFw_ok {S : zS} {p : Int32} {n : Nat} (h : sFw S p 0 n = none) (hn : 1 ≤ n) : ∃ a, p = nI a ∧ a + n ≤ sN S 1 0 ∧ a < 2147483648 := by
  obtain ⟨y, h1, h2, -⟩ := sWr_0 (sFw_n h 0 (by omega) (by omega))
  obtain ⟨w, h3, h4, -⟩ := sWr_0 (sFw_n h (n - 1) (by omega) (by omega))
  obtain ⟨a, rfl, ha⟩ := i_nat (x := p) (by omega)
  rw [i_nI ha] at h1 h3
  exact ⟨a, rfl, by omega, ha⟩
def sByt (v : Int64) (k : Nat) : Int32 := ((v.toUInt64 >>> ((nI (8 * k)).toInt64.toUInt64 &&& Int64.toUInt64 63)).toInt64).toInt32.toInt8.toInt32
def sNm (S : zS) (a n : Nat) : Nat → Int64
  | 0 => 0
  | j + 1 => (sNm S a n j <<< ((8 : Int32).toInt64 &&& 63)) ||| (S 3 (a + (n - 1 - j)) &&& 255).toInt64
section ZAC
variable {X : zCx} {h : zHp} {m : Nat} {S : zS} {cc : Nat}
theorem rr_noN {M : zMI} {f : zFr} {L : zLo} {Q : zRs → zHp → Prop} {pc p0 idx nx t p1 nx1 t1 : Nat} {lv lv1 : Int32} {o : Int} (G : zG X) (hf : zlk (zFt M) pc = some (p0, .invokevirtual idx, nx, lv, t)) (hr : zML[t]? = some ((zNm M).cls, idx, yX11_refuses)) (hfr : Nat.ble 1 f.1 = true) (hlc : Nat.ble 121 f.2.1 = true) (hf1 : zlk (zFt M) nx = some (p1, .ifCond .ne o, nx1, lv1, t1)) (kk : Z X M f (zr X h m (sThrow S 0)) nx1 L [] Q) : Z X M f (zr X h m S) pc L [.int 0, .ref m] Q := by
  refine z_cV zr_o (rc_refuses G 0) KX11_refuses IX11_refuses VX11_refuses rfl hf hr PX11_refuses hfr hlc rfl rfl ?_
  refine z_br hf1 rfl (fun c => ?_) (fun c => kk)
  exact absurd rfl c
theorem rr_yesN {M : zMI} {f : zFr} {L : zLo} {Q : zRs → zHp → Prop} {pc p0 idx nx t p1 nx1 t1 : Nat} {lv lv1 w : Int32} {o : Int} (G : zG X) (hw : w ≠ 0) (hf : zlk (zFt M) pc = some (p0, .invokevirtual idx, nx, lv, t)) (hr : zML[t]? = some ((zNm M).cls, idx, yX11_refuses)) (hfr : Nat.ble 1 f.1 = true) (hlc : Nat.ble 121 f.2.1 = true) (hf1 : zlk (zFt M) nx = some (p1, .ifCond .ne o, nx1, lv1, t1)) (kk : Z X M f (zr X h m (sThrow S w)) t1 L [] Q) : Z X M f (zr X h m S) pc L [.int w, .ref m] Q := by
  refine z_cV zr_o (rc_refuses G w) KX11_refuses IX11_refuses VX11_refuses rfl hf hr PX11_refuses hfr hlc rfl rfl ?_
  refine z_br hf1 rfl (fun c => kk) (fun c => ?_)
  rw [if_neg hw] at c
  exact absurd c (by decide)
theorem i_dec (x : Int32) : x + (-1) = x - 1 := by
  rw [Int32.sub_eq_add_neg]
/-- load -/
noncomputable def sLoad (S : zS) (p q : Int32) : Int64 × zS := zif (q.toInt < 1 ∨ 8 < q.toInt) (0, sThrow S 1) (match sFw S p 0 q.toInt.toNat with
  | none => (sNm S p.toInt.toNat q.toInt.toNat q.toInt.toNat, sThrow S 0)
  | some _ => (0, (sRight (sThrow S 0) p 0 q.toInt.toNat q 0).2))
theorem rc_load (G : zG X) (I : sInv S cc) (p q : Int32) : ZM X MX11_load 4 210 [.ref m, .int p, .int q] (zr X h m S) (zX (zr X h m (sLoad S p q).2) (some (.long (sLoad S p q).1))) := by
  have t1 : (1 : Int32).toInt = 1 := rfl
  have t8 : (8 : Int32).toInt = 8 := rfl
  have N2 := I.2.1.2.1
  refine zm_of_z G KX11_load rfl rfl ?_
  refine z_go 90 rfl ?_
  have bad : (q.toInt < 1 ∨ 8 < q.toInt) → Z X MX11_load (4, 210, h.2.1, h.2.2) (zr X h m S) 17 [some (.ref m), some (.int p), some (.int q), none, none, none] [.int 1, .ref m] (zX (zr X h m (sLoad S p q).2) (some (.long (sLoad S p q).1))) := by
    intro hb
    refine rr_yesN G (by decide) rfl rfl rfl rfl rfl ?_
    refine z_go 90 rfl ?_
    refine z_lret rfl rfl ?_
    unfold sLoad
    rw [zif_pos hb]
    exact ⟨rfl, rfl⟩
  refine z_br rfl rfl (fun c => ?_) (fun c => ?_) <;> (try dsimp only at c)
  · rw [i_lt] at c
    refine z_go 90 rfl ?_
    exact bad (by omega)
  rw [i_lt] at c
  refine z_go 90 rfl ?_
  refine z_br rfl rfl (fun d => ?_) (fun d => ?_) <;> (try dsimp only at d)
  case _ =>
    rw [i_le] at d
    have hS := zif_neg (p := q.toInt < 1 ∨ 8 < q.toInt) (a := ((0 : Int64), sThrow S 1)) (b := (match sFw S p 0 q.toInt.toNat with
      | none => (sNm S p.toInt.toNat q.toInt.toNat q.toInt.toNat, sThrow S 0)
      | some _ => (0, (sRight (sThrow S 0) p 0 q.toInt.toNat q 0).2))) (by omega)
    rw [show sLoad S p q = _ from hS]
    obtain ⟨n, rfl, hn⟩ := i_nat (x := q) (by omega)
    rw [i_nI hn] at c d ⊢
    rw [Int.toNat_natCast]
    refine z_go 90 rfl ?_
    refine rr_noN G rfl rfl rfl rfl rfl ?_
    refine z_go 90 rfl ?_
    refine z_cV zr_o (rc_right G (sInv_T I 0 (by decide)) p 0 n (nI n) 0 (Or.inl rfl) (by omega) (by omega)) KX11_right IX11_right VX11_right rfl rfl rfl PX11_right rfl rfl rfl rfl ?_
    refine z_go 90 rfl ?_
    cases hq : sFw S p 0 n with
    | some k =>
      have hr := sRight_s (many := nI n) (wr := 0) (show sFw (sThrow S 0) p 0 n = some k from hq)
      rw [hr]
      refine z_br rfl rfl (fun c => absurd c (by first | decide | (dsimp only; decide))) (fun _ => ?_)
      refine z_go 90 rfl ?_
      exact z_lret rfl rfl ⟨rfl, rfl⟩
    | none =>
      rw [sRight_n (many := nI n) (wr := 0) (show sFw (sThrow S 0) p 0 n = none from hq)]
      obtain ⟨a, rfl, ha, ha2⟩ := sFw_ok hq (by omega)
      rw [i_nI ha2]
      refine z_br rfl rfl (fun _ => ?_) (fun c => absurd c (by first | decide | (dsimp only; decide)))
      refine z_go 90 rfl ?_
      have H := zdown (P := fun j => Z X MX11_load (4, 210, h.2.1, h.2.2) (zr X h m (sThrow S 0)) 47 [some (.ref m), some (.int (nI a)), some (.int (nI n)), some (.long (sNm S a n j)), none, some (.int (nI (n - j) - 1))] [.int (nI (n - j) - 1)] (zX (zr X h m (sThrow S 0)) (some (.long (sNm S a n n))))) n (fun j hj ih => ?_) 0 (Nat.zero_le _)
      · exact H
      refine z_br rfl rfl (fun e => ?_) (fun e => ?_) <;> (try dsimp only at e)
      · rw [i_lt] at e
        have e2 := i_nI (n := n - j) (by omega)
        have e3 : (nI (n - j) - 1).toInt = (n - j : Nat) - 1 := by rw [i_sub] <;> omega
        have e4 : (0 : Int32).toInt = 0 := rfl
        have : j = n := by omega
        subst this
        refine z_go 90 rfl ?_
        exact z_lret rfl rfl ⟨rfl, rfl⟩
      · rw [i_lt] at e
        have e2 := i_nI (n := n - j) (by omega)
        have e3 : (nI (n - j) - 1).toInt = (n - j : Nat) - 1 := by rw [i_sub] <;> omega
        have e4 : (0 : Int32).toInt = 0 := rfl
        have e5 : nI (n - j) - 1 = nI (n - 1 - j) := by
          rw [show n - 1 - j = n - j - 1 by omega]
          exact n_sub (b := 1) (by omega) (by omega)
        rw [e5]
        refine z_go 90 rfl ?_
        refine z_get zr_o rfl rfl rfl rfl ?_
        refine z_go 90 rfl ?_
        rw [n_add]
        refine r_lv3 (a + (n - 1 - j)) rfl (i_nI (by omega)) (by omega) rfl ?_
        refine z_go 90 rfl ?_
        have e6 : nI (n - 1 - j) + (-1) = nI (n - (j + 1)) - 1 := by rw [i_dec, show n - (j + 1) = n - 1 - j by omega]
        rw [e6]
        exact ih (by omega)
  · rw [i_le] at d
    refine z_go 90 rfl ?_
    exact bad (by omega)
/-- store -/
noncomputable def sStore (S : zS) (p q : Int32) (v : Int64) : Int32 × zS := zif (q.toInt < 1 ∨ 8 < q.toInt) (0, sThrow S 1) (match sFw S p 0 q.toInt.toNat with
  | none => (1, sMw (sThrow S 0) p.toInt.toNat q.toInt.toNat (sByt v))
  | some _ => (0, (sRight (sThrow S 0) p 0 q.toInt.toNat q 1).2))
theorem rc_store (G : zG X) (I : sInv S cc) (p q : Int32) (v : Int64) : ZM X MX11_store 4 210 [.ref m, .int p, .int q, .long v] (zr X h m S) (zX (zr X h m (sStore S p q v).2) (some (.int (sStore S p q v).1))) := by
  have t1 : (1 : Int32).toInt = 1 := rfl
  have t8 : (8 : Int32).toInt = 8 := rfl
  have N2 := I.2.1.2.1
  refine zm_of_z G KX11_store rfl rfl ?_
  refine z_go 90 rfl ?_
  have bad : (q.toInt < 1 ∨ 8 < q.toInt) → Z X MX11_store (4, 210, h.2.1, h.2.2) (zr X h m S) 17 [some (.ref m), some (.int p), some (.int q), some (.long v), none, none] [.int 1, .ref m] (zX (zr X h m (sStore S p q v).2) (some (.int (sStore S p q v).1))) := by
    intro hb
    refine rr_yesN G (by decide) rfl rfl rfl rfl rfl ?_
    refine z_go 90 rfl ?_
    refine z_zret rfl rfl rfl ?_
    unfold sStore
    rw [zif_pos hb]
    exact ⟨rfl, rfl⟩
  refine z_br rfl rfl (fun c => ?_) (fun c => ?_) <;> (try dsimp only at c)
  · rw [i_lt] at c
    refine z_go 90 rfl ?_
    exact bad (by omega)
  rw [i_lt] at c
  refine z_go 90 rfl ?_
  refine z_br rfl rfl (fun d => ?_) (fun d => ?_) <;> (try dsimp only at d)
  case _ =>
    rw [i_le] at d
    have hS := zif_neg (p := q.toInt < 1 ∨ 8 < q.toInt) (a := ((0 : Int32), sThrow S 1)) (b := (match sFw S p 0 q.toInt.toNat with
      | none => (1, sMw (sThrow S 0) p.toInt.toNat q.toInt.toNat (sByt v))
      | some _ => (0, (sRight (sThrow S 0) p 0 q.toInt.toNat q 1).2))) (by omega)
    rw [show sStore S p q v = _ from hS]
    obtain ⟨n, rfl, hn⟩ := i_nat (x := q) (by omega)
    rw [i_nI hn] at c d ⊢
    rw [Int.toNat_natCast]
    refine z_go 90 rfl ?_
    refine rr_noN G rfl rfl rfl rfl rfl ?_
    refine z_go 90 rfl ?_
    refine z_cV zr_o (rc_right G (sInv_T I 0 (by decide)) p 0 n (nI n) 1 (Or.inr rfl) (by omega) (by omega)) KX11_right IX11_right VX11_right rfl rfl rfl PX11_right rfl rfl rfl rfl ?_
    refine z_go 90 rfl ?_
    cases hq : sFw S p 0 n with
    | some k =>
      have hr := sRight_s (many := nI n) (wr := 1) (show sFw (sThrow S 0) p 0 n = some k from hq)
      rw [hr]
      refine z_br rfl rfl (fun c => absurd c (by first | decide | (dsimp only; decide))) (fun _ => ?_)
      refine z_go 90 rfl ?_
      exact z_zret rfl rfl rfl ⟨rfl, rfl⟩
    | none =>
      rw [sRight_n (many := nI n) (wr := 1) (show sFw (sThrow S 0) p 0 n = none from hq)]
      obtain ⟨a, rfl, ha, ha2⟩ := sFw_ok hq (by omega)
      rw [i_nI ha2]
      refine z_br rfl rfl (fun _ => ?_) (fun c => absurd c (by first | decide | (dsimp only; decide)))
      refine z_go 90 rfl ?_
      refine z_eqS (sMw_0 (sThrow S 0) a (sByt v)).symm ?_
      have H := zdown (P := fun k => Z X MX11_store (4, 210, h.2.1, h.2.2) (zr X h m (sMw (sThrow S 0) a k (sByt v))) 44 [some (.ref m), some (.int (nI a)), some (.int (nI n)), some (.long v), none, some (.int (nI k))] [.int (nI n), .int (nI k)] (zX (zr X h m (sMw (sThrow S 0) a n (sByt v))) (some (.int 1)))) n (fun k hk ih => ?_) 0 (Nat.zero_le _)
      · exact H
      refine z_br rfl rfl (fun e => ?_) (fun e => ?_) <;> (try dsimp only at e)
      · rw [n_le (by omega) (by omega)] at e
        have : k = n := by omega
        subst this
        refine z_go 90 rfl ?_
        exact z_zret rfl rfl rfl ⟨rfl, rfl⟩
      · rw [n_le (by omega) (by omega)] at e
        refine z_go 90 rfl ?_
        refine z_get zr_o rfl rfl rfl rfl ?_
        refine z_go 90 rfl ?_
        rw [n_add, show (8 : Int32) * nI k = nI (8 * k) from n_mul 8 k]
        refine r_st3 (a + k) (i_nI (by omega)) (by omega) rfl ?_
        refine z_go 90 rfl ?_
        rw [show nI k + (1 : Int32) = nI (k + 1) from n_succ k]
        refine z_eqS (sMw_s _ _ _ _ ?_) (ih (by omega))
        exact b_idem _
  · rw [i_le] at d
    refine z_go 90 rfl ?_
    exact bad (by omega)
end ZAC
