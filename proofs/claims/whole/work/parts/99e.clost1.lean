section ZL1
variable {X : zCx} {F : Nat → Option va_E} {o p q : Nat} {S : zS} {D : Nat → Nat → Nat} {W : Nat → Nat → Int32} {K : Nat → Nat → Nat} {h : zHp} {cc : Nat}
theorem zhb_s : Jvm.Cond.selects "ShadowWard$Block" ⟨"ShadowWard$Block", "hasByte", "(I)Z"⟩ yX7_hasByte ∈ lw_tbl := z_in (List.mem_of_getElem? (i := 569) (by decide +kernel))
theorem zhb_m : Jvm.Cond.sameMethod "ShadowWard$Block" "ShadowWard$Region" "hasByte" "(I)Z" ∈ lw_tbl := z_in (List.mem_of_getElem? (i := 567) (by decide +kernel))
theorem z_cU {M : zMI} {f : zFr} {pc : Nat} {L : zLo} {Q : zRs → zHp → Prop} {M' : zMI} {x : MethodName} {fr lo b ci : Nat} {fs As st stk : List Value} {h1 : zHp} {v : Option Value} {p0 idx nx t : Nat} {lv : Int32} (hM : ZM X M' fr lo (.ref b :: As) h (zX h1 v)) (hK : zMK M') (hob : h.1 b = some (.inr (ci, fs))) (hci : ci < 13) (hin : Jvm.Cond.instanceMethod (zNm M') ∈ lw_tbl) (hse : Jvm.Cond.selects (zcl ci).1 x (zNm M') ∈ lw_tbl) (hsm : Jvm.Cond.sameMethod x.cls (zNm M').cls x.name x.desc ∈ lw_tbl) (hnm : (zNm M') = ⟨(zNm M').cls, x.name, x.desc⟩) (hf : zlk (zFt M) pc = some (p0, .invokevirtual idx, nx, lv, t)) (hr : zML[t]? = some ((zNm M).cls, idx, x)) (hln : (parseMethodDescriptor x.desc).map (fun d => d.parameters.length) = some As.length) (hfr : Nat.ble (fr + 1) f.1 = true) (hlc : Nat.ble (8 + (zNL M' + 11) + lo) f.2.1 = true) (hstk : zap (.ref b :: As) st = stk) (hw : Nat.ble (zcat st) 8 = true)
    (kk : Z X M f h1 nx L (v.toList ++ st) Q) : Z X M f h pc L stk Q :=
  z_invU hM hK hob hci hin hse hsm hnm hf hr hln hfr hlc hstk hw (fun v' h' q => by obtain ⟨rfl, q2⟩ := q; cases q2; exact kk) (fun E h' q => by cases q.2)
theorem c_hasB (G : zG X) {a A n : Nat} {x0 x1 x3 : Value} {rest : List Value} (hA : A + n < 2147483648) (hh : h.1 a = some (.inr (1, x0 :: x1 :: .int (nI A) :: x3 :: .int (nI (A + n)) :: rest))) (w : Int32) : ZM X MX7_hasByte 0 100 [.ref a, .int w] h (zX h (some (.int (zif ((A : Int) ≤ w.toInt ∧ w.toInt < (A + n : Nat)) 1 0)))) := by
  have t1 := i_nI (n := A) (by omega)
  have t2 := i_nI (n := A + n) (by omega)
  refine zm_of_z G KX7_hasByte rfl rfl ?_
  refine z_go 90 rfl ?_
  refine z_get hh rfl rfl rfl rfl ?_
  refine z_br rfl rfl (fun c => ?_) (fun c => ?_) <;> (try dsimp only at c)
  · rw [i_lt, t1] at c
    refine z_go 90 rfl ?_
    exact z_zret rfl rfl rfl ⟨rfl, by rw [zif_neg (by omega)]⟩
  · rw [i_lt, t1] at c
    refine z_go 90 rfl ?_
    refine z_get hh rfl rfl rfl rfl ?_
    refine z_br rfl rfl (fun d => ?_) (fun d => ?_) <;> (try dsimp only at d)
    · rw [i_le, t2] at d
      refine z_go 90 rfl ?_
      exact z_zret rfl rfl rfl ⟨rfl, by rw [zif_neg (by omega)]⟩
    · rw [i_le, t2] at d
      refine z_go 90 rfl ?_
      exact z_zret rfl rfl rfl ⟨rfl, by rw [zif_pos (by omega)]⟩
noncomputable def zlb (S : zS) (w : Int32) : Option Nat := match zco S w with
  | none => none
  | some k => zif (sN S 18 k = 0 ∧ (sN S 15 k : Int) ≤ w.toInt ∧ w.toInt < (sN S 15 k + sN S 16 k : Nat)) (some k) none
theorem k_live (G : zG X) (I : sInv S cc) (R : zSt X F o S D W K h p q) (w : Int32) : ZM X MX4_liveBlockWith 1 130 [.ref (D 15 0), .int w] h (zX h (some (va_rf ((zlb S w).map (D 18))))) := by
  refine zm_of_z G KX4_liveBlockWith rfl rfl ?_
  refine z_go 90 rfl ?_
  refine z_cV (zRel_15 R.1) (k_chO G I R w) KX4_chunkOwner IX4_chunkOwner VX4_chunkOwner rfl rfl rfl PX4_chunkOwner rfl rfl rfl rfl ?_
  unfold zlb
  cases hz : zco S w with
  | none =>
    refine z_go 90 rfl ?_
    exact z_aret (r := none) rfl rfl (Or.inl ⟨_, rfl⟩) ⟨rfl, rfl⟩
  | some k =>
    have hk := (zco_s I hz).1
    have x18 := R.1.1 18 k hk
    have l18 := sN_lt I.1 (k := 18) (i := k) rfl
    have l15 := sN_lt I.1 (k := 15) (i := k) rfl
    have l16 := sN_lt I.1 (k := 16) (i := k) rfl
    show Z X MX4_liveBlockWith _ _ _ _ (.ref (D 18 k) :: _) _
    dsimp only
    refine z_go 90 rfl ?_
    refine z_get x18 rfl rfl rfl rfl ?_
    refine z_ite (p := sN S 18 k = 0) (fun e => ?_) (fun e => ?_)
    · rw [show nI (sN S 18 k) = (0 : Int32) by rw [e]; rfl]
      refine z_br rfl rfl (fun c => absurd c (by first | decide | (dsimp only; decide))) (fun _ => ?_)
      refine z_go 90 rfl ?_
      refine z_cU (c_hasB G (by omega) x18 w) KX7_hasByte x18 (by decide) IX7_hasByte zhb_s zhb_m rfl rfl rfl PX7_hasByte rfl rfl rfl rfl ?_
      refine z_ite (p := (sN S 15 k : Int) ≤ w.toInt ∧ w.toInt < (sN S 15 k + sN S 16 k : Nat)) (fun c => ?_) (fun c => ?_)
      · rw [zif_pos c, zif_pos ⟨e, c⟩]
        refine z_br rfl rfl (fun c => absurd c (by first | decide | (dsimp only; decide))) (fun _ => ?_)
        refine z_go 90 rfl ?_
        exact z_aret (r := some (D 18 k)) rfl rfl (Or.inl ⟨_, rfl⟩) ⟨rfl, rfl⟩
      · rw [zif_neg c, zif_neg (fun z => c z.2)]
        refine z_br rfl rfl (fun _ => ?_) (fun c => absurd c (by first | decide | (dsimp only; decide)))
        refine z_go 90 rfl ?_
        exact z_aret (r := none) rfl rfl (Or.inl ⟨_, rfl⟩) ⟨rfl, rfl⟩
    · rw [zif_neg (fun z => e z.1)]
      refine z_br rfl rfl (fun _ => ?_) (fun c => absurd c (by
        show ¬ nI (sN S 18 k) = nI 0
        rw [n_eq (by omega) (by omega)]
        exact e))
      refine z_go 90 rfl ?_
      exact z_aret (r := none) rfl rfl (Or.inl ⟨_, rfl⟩) ⟨rfl, rfl⟩
/-- the live block to which the word at a leads -/
noncomputable def zld (S : zS) (a : Nat) : Option Nat := zlb S (sNm S a 4 4).toInt32
theorem zld_iff (I : sInv S cc) (a b : Nat) : zld S a = some b ↔ b < sN S 23 0 ∧ sN S 18 b = 0 ∧ sN S 15 b ≤ sWv S a ∧ sWv S a < sN S 15 b + sN S 16 b := by
  have h4 := sNm_4 S a
  have hb : sWv S a < 4294967296 := by
    unfold sWv
    have := sB_lt S a
    have := sB_lt S (a + 1)
    have := sB_lt S (a + 2)
    have := sB_lt S (a + 3)
    omega
  have e1 : (sNm S a 4 4).toInt = (sWv S a : Int) := by
    rw [← h4]
    exact lB_toInt (by omega)
  have e2 : (sNm S a 4 4).toInt32.toInt = if sWv S a < 2147483648 then (sWv S a : Int) else (sWv S a : Int) - 4294967296 := by
    rw [Int64.toInt_toInt32, e1, Int.bmod_def]
    split <;> split <;> omega
  unfold zld zlb
  constructor
  · intro z
    cases hz : zco S (sNm S a 4 4).toInt32 with
    | none => rw [hz] at z; cases z
    | some k =>
      rw [hz] at z
      dsimp only at z
      have hk := zco_s I hz
      by_cases c : sN S 18 k = 0 ∧ (sN S 15 k : Int) ≤ (sNm S a 4 4).toInt32.toInt ∧ (sNm S a 4 4).toInt32.toInt < (sN S 15 k + sN S 16 k : Nat)
      · rw [zif_pos c] at z
        cases z
        rw [e2] at c
        by_cases d : sWv S a < 2147483648
        · rw [if_pos d] at c
          exact ⟨hk.1, c.1, by omega, by omega⟩
        · rw [if_neg d] at c
          omega
      · rw [zif_neg c] at z
        cases z
  · rintro ⟨h1, h2, h3, h5⟩
    have ib := I.2.2.2.2.1.1 b h1
    have l15 := sN_lt I.1 (k := 15) (i := b) rfl
    have l16 := sN_lt I.1 (k := 16) (i := b) rfl
    have hc := sCh_b (sN S 16 b)
    rw [if_pos (by omega)] at e2
    rw [zco_is I h1 (by omega) (by omega) (by omega)]
    dsimp only
    rw [zif_pos ⟨h2, by omega, by omega⟩]
theorem k_led (G : zG X) (I : sInv S cc) (R : zSt X F o S D W K h p q) (a : Nat) (ha : a + 4 ≤ sN S 1 0) : ZM X MX5_ledToFrom 2 160 [.ref (D 22 0), .int (nI a)] h (zX h (some (va_rf ((zld S a).map (D 18))))) := by
  have x22 := R.1.1 22 0 ⟨rfl, by decide⟩
  have Mm := zRel_mem R.1 I.2.1
  refine zm_of_z G KX5_ledToFrom rfl rfl ?_
  refine z_go 90 rfl ?_
  refine z_get x22 rfl rfl rfl rfl ?_
  refine z_go 90 rfl ?_
  refine z_get x22 rfl rfl rfl rfl ?_
  refine z_go 90 rfl ?_
  refine z_cV Mm.1 (c_number G Mm a 4 ha) KX6_number IX6_number VX6_number rfl rfl rfl PX6_number rfl rfl rfl rfl ?_
  refine z_go 90 rfl ?_
  refine z_cV (zRel_15 R.1) (k_live G I R (sNm S a 4 4).toInt32) KX4_liveBlockWith IX4_liveBlockWith VX4_liveBlockWith rfl rfl rfl PX4_liveBlockWith rfl rfl rfl rfl ?_
  exact z_aret (r := (zld S a).map (D 18)) rfl rfl (Or.inl ⟨_, rfl⟩) ⟨rfl, rfl⟩
end ZL1
