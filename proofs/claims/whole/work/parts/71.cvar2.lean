section ZV2
variable {X : zCx} {S : zS} {D : Nat → Nat → Nat} {W : Nat → Nat → Int32} {K : Nat → Nat → Nat} {h : zHp} {cc : Nat}
/-- a virtual call that throws, out of a method without handlers -/
theorem z_cVT {M : zMI} {f : zFr} {pc : Nat} {L : zLo} {Q : zRs → zHp → Prop} {M' : zMI} {fr lo b ci : Nat} {fs As st stk : List Value} {h1 : zHp} {E : String} {p0 idx nx t : Nat} {lv : Int32} (hob : h.1 b = some (.inr (ci, fs))) (hM : ZM X M' fr lo (.ref b :: As) h (zXT h1 E)) (hK : zMK M') (hin : Jvm.Cond.instanceMethod (zNm M') ∈ lw_tbl) (hse : Jvm.Cond.selects (zcl ci).1 (zNm M') (zNm M') ∈ lw_tbl) (hci : Nat.ble (ci + 1) 13 = true) (hf : zlk (zFt M) pc = some (p0, .invokevirtual idx, nx, lv, t)) (hr : zML[t]? = some ((zNm M).cls, idx, zNm M')) (hln : (parseMethodDescriptor (zNm M').desc).map (fun d => d.parameters.length) = some As.length) (hfr : Nat.ble (fr + 1) f.1 = true) (hlc : Nat.ble (8 + (zNL M' + 11) + lo) f.2.1 = true) (hstk : zap (.ref b :: As) st = stk) (hw : Nat.ble (zcat st) 8 = true) (hh : zHh M = [])
    (hq : Q (.inr E) h1) : Z X M f h pc L stk Q :=
  z_invV hM hK hob (Nat.le_of_ble_eq_true hci) hin hse hf hr hln hfr hlc hstk hw (fun v h' q => by cases q.2) (fun E' h' q => by obtain ⟨rfl, q2⟩ := q; cases q2; exact zt_out hh hq)
theorem k_variable (G : zG X) (I : sInv S cc) (R : zRel X S D W K h) (p q : Int32) (hlim : zLim X (zadd h 1 6)) : ZM X MX10_variable 8 320 [.ref (D 0 0), .int p, .int q] h (fun r h' => (¬ sNoV S p q ∧ zX h (some (.int (sVar S p q).1)) r h') ∨ (sNoV S p q ∧ zXT (zadd h 1 6) zIOE r h')) := by
  obtain ⟨I0, In, Ig, If, -⟩ := id I
  refine zm_of_z G KX10_variable rfl rfl ?_
  refine z_go 90 rfl ?_
  refine z_ite (p := sNoV S p q) (fun nv => ?_) (fun nv => ?_)
  · exact z_cVT (zRel_0 R) (k_varOf0 G I R p q nv hlim) KX10_variableOf IX10_variableOf VX10_variableOf rfl rfl rfl PX10_variableOf rfl rfl rfl rfl rfl (Or.inr ⟨nv, rfl, rfl⟩)
  · have hS : sVar S p q = (S 11 (4 * p.toInt.toNat + q.toInt.toNat), sThrow S 0) := by unfold sVar; rw [zif_neg nv]
    rw [hS]
    obtain ⟨f, j, rfl, rfl, hf, hj, hv, -⟩ := sVar_b I nv
    have f1 := If.1
    have v4 := (If.2 f hf).2.2.2.2.2.2.2.1
    have hvd : zvd S K 14 (4 * f + j) := ⟨by omega, by
      rw [show (4 * f + j) % 4 = j by omega, show (4 * f + j) / 4 = f by omega]
      omega⟩
    have hk' := R.1 14 (4 * f + j) hvd
    rw [i_nI (show f < 2147483648 by omega), i_nI (show j < 2147483648 by omega), Int.toNat_natCast, Int.toNat_natCast]
    refine z_cV (zRel_0 R) (k_varOf1 G I R f j hf hj) KX10_variableOf IX10_variableOf VX10_variableOf rfl rfl rfl PX10_variableOf rfl rfl rfl rfl ?_
    refine z_get hk' rfl rfl rfl rfl ?_
    exact z_iret rfl rfl (Or.inl ⟨nv, rfl, by rw [← sN_eq I0 (k := 11) (i := 4 * f + j) rfl]⟩)
end ZV2
