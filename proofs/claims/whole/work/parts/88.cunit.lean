section ZUT
variable {X : zCx} {F : Nat → Option va_E} {o p q : Nat} {S : zS} {D : Nat → Nat → Nat} {W : Nat → Nat → Int32} {K : Nat → Nat → Nat} {h : zHp} {cc : Nat}
noncomputable def zrun (S : zS) (m : Nat) : Option Nat := zFst (zRn (zow S) ((sN S 1 0 - sN S 1 0 / 4) / 16) m) (sN S 1 0)
theorem sPlace_r {m : Nat} (I : sInv S cc) (hm : 1 ≤ m) : sPlace S (16 * m) = (zrun S m).map (fun i => sN S 1 0 / 4 + 16 * i) := sPlace_run I hm
theorem zSt_21 (R : zSt X F o S D W K h p q) : h.1 (D 21 0) = some (zBk X ((sN S 1 0 - sN S 1 0 / 4) / 16) (fun u => (zow S u).map (D 18))) := R.1.1 21 0 ⟨rfl, by decide⟩
theorem k_ffr (G : zG X) (I : sInv S cc) (R : zSt X F o S D W K h p q) (m : Nat) (hm : 1 ≤ m) (hm2 : m ≤ 2000) : ZM X MX4_firstFreeRun 0 100 [.ref (D 15 0), .int (nI m)] h (zX h (some (.int (zoI (zrun S m))))) := by
  have N2 := I.2.1.2.1
  have P := c_ffr G (zRel_15 R.1) (zSt_21 R) (by omega) hm hm2 (B := sN S 1 0) (by omega)
  have e : zFst (zRn (fun u => (zow S u).map (D 18)) ((sN S 1 0 - sN S 1 0 / 4) / 16) m) (sN S 1 0) = zrun S m := zFst_c (fun i _ => zRn_f (fun j => by
    show (zow S j).map (D 18) = none ↔ _
    cases zow S j with
    | none => exact ⟨fun _ => rfl, fun _ => rfl⟩
    | some k => exact ⟨(fun z => by cases z), (fun z => by cases z)⟩))
  rw [e] at P
  exact P
theorem zoI_m {k : Nat} (hk : k < 2147483648) : ¬ zoI (some k) = -1 := by
  show ¬ nI k = -1
  intro e
  have e2 := congrArg Int32.toInt e
  rw [i_nI hk] at e2
  have e3 : (-1 : Int32).toInt = -1 := rfl
  omega
theorem zrun_lt {m i : Nat} (h : zrun S m = some i) : i < sN S 1 0 := (zFst_some.mp h).1
theorem k_unit (G : zG X) (I : sInv S cc) (R : zSt X F o S D W K h p q) (m : Nat) (hm : 1 ≤ m) (hm2 : m ≤ 2000) : ZM X MX4_unitWithRoom 4 220 [.ref (D 15 0), .int (nI m)] h (fun r h' => r = .inl (some (.int (zoI (zrun (sMake (16 * m) (sN S 25 0) S).1 m)))) ∧ ∃ W', zSt X F o (sMake (16 * m) (sN S 25 0) S).1 D W' K h' p q) := by
  have loop : ∀ (k : Nat) (S1 : zS) (W1 : Nat → Nat → Int32) (h1 : zHp), sInv S1 cc → zSt X F o S1 D W1 K h1 p q → k = sN S1 25 0 → sMake (16 * m) (sN S 25 0) S = sMake (16 * m) k S1 → Z X MX4_unitWithRoom (4, 220, h.2.1, h.2.2) h1 15 [some (.ref (D 15 0)), some (.int (nI m)), some (.int (zoI (zrun S1 m))), some (.int (nI k))] [.int (nI k)] (fun r h' => r = .inl (some (.int (zoI (zrun (sMake (16 * m) (sN S 25 0) S).1 m)))) ∧ ∃ W', zSt X F o (sMake (16 * m) (sN S 25 0) S).1 D W' K h' p q) := by
    intro k
    induction k with
    | zero =>
      intro S1 W1 h1 I1 R1 hk e
      rw [e]
      refine z_br rfl rfl (fun _ => ?_) (fun c => absurd c (by first | decide | (dsimp only; decide)))
      refine z_go 90 rfl ?_
      exact z_iret rfl rfl ⟨rfl, W1, R1⟩
    | succ k ih =>
      intro S1 W1 h1 I1 R1 hk e
      have hk9 : k + 1 ≤ 512 := by have := I1.2.2.2.2.2.2.2.2.2.2.1; have := I1.2.2.2.2.2.2.2.2.1; omega
      refine z_br rfl rfl (fun c => absurd c (by
        show ¬ nI (k + 1) ≤ nI 0
        rw [n_le (by omega) (by omega)]
        omega)) (fun _ => ?_)
      refine z_go 90 rfl ?_
      cases hr : zrun S1 m with
      | some i =>
        have e2 : sMake (16 * m) (k + 1) S1 = (S1, sPlace S1 (16 * m)) := by
          show (match sPlace S1 (16 * m) with | some a => (S1, some a) | none => sMake (16 * m) k (sOld S1)) = _
          rw [sPlace_r I1 hm, hr]
          rfl
        rw [e, e2]
        have hi := zrun_lt hr
        have N2 := I1.2.1.2.1
        refine z_br rfl rfl (fun _ => ?_) (fun c => absurd c (zoI_m (by omega)))
        refine z_go 90 rfl ?_
        exact z_iret rfl rfl ⟨by rw [hr], W1, R1⟩
      | none =>
        have e2 : sMake (16 * m) (k + 1) S1 = sMake (16 * m) k (sOld S1) := by
          show (match sPlace S1 (16 * m) with | some a => (S1, some a) | none => sMake (16 * m) k (sOld S1)) = _
          rw [sPlace_r I1 hm, hr]
          rfl
        refine z_br rfl rfl (fun c => absurd c (by first | decide | (dsimp only; decide))) (fun _ => ?_)
        refine z_go 90 rfl ?_
        refine z_cVP (zRel_15 R1.1) (k_relOld G I1 R1 (by omega)) KX4_releaseOldest IX4_releaseOldest VX4_releaseOldest rfl rfl rfl PX4_releaseOldest rfl rfl rfl rfl ?_
        intro h2 P2
        obtain ⟨W2, R2⟩ := P2
        have I2 := sOld_inv I1 (by omega)
        refine z_go 90 rfl ?_
        refine z_cV (zRel_15 R2.1) (k_ffr G I2 R2 m hm hm2) KX4_firstFreeRun IX4_firstFreeRun VX4_firstFreeRun rfl rfl rfl PX4_firstFreeRun rfl rfl rfl rfl ?_
        refine z_go 90 rfl ?_
        have e3 : nI (k + 1) + (-1 : Int32) = nI k := by
          apply i_ext
          have t1 := i_nI (n := k + 1) (by omega)
          have t2 := i_nI (n := k) (by omega)
          have t3 : (-1 : Int32).toInt = -1 := rfl
          rw [i_add (by omega) (by omega)]
          omega
        rw [e3]
        exact ih (sOld S1) W2 h2 I2 R2 (by rw [sOld_25 I1.1]; omega) (by rw [e, e2])
  refine zm_of_z G KX4_unitWithRoom rfl rfl ?_
  refine z_go 90 rfl ?_
  refine z_cV (zRel_15 R.1) (k_ffr G I R m hm hm2) KX4_firstFreeRun IX4_firstFreeRun VX4_firstFreeRun rfl rfl rfl PX4_firstFreeRun rfl rfl rfl rfl ?_
  refine z_go 90 rfl ?_
  refine z_get (zRel_15 R.1) rfl rfl rfl rfl ?_
  have A : zAl X h (D 19 0) (D 20 0) (W 19 0) (sN S 25 0) (K 20 0) (zes S D K 19 0) := zRel_al R.1 (r := 19) (i := 0) (Or.inl ⟨rfl, by decide⟩)
  refine z_cV A.1 (c_size (z := .null) G A.1) KJx4a65c_size_8abf5 IJx4a65c_size_8abf5 VJx4a65c_size_8abf5 rfl rfl rfl PJx4a65c_size_8abf5 rfl rfl rfl rfl ?_
  refine z_go 90 rfl ?_
  exact loop (sN S 25 0) S W h I R rfl rfl
end ZUT
