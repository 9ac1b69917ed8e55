/-! a handler's search that may link its class on the way; inherited methods; the script -/
theorem zfh_yes {Q : Handler → Pre} {E : CtlPost} {e : Env} {d : Bool} {acts : List Action} {s : State} {f : JFrame} {a : Addr} {x : ExceptionTableEntry} {t : List ExceptionTableEntry} {c : ClassId} {cell : Cell} (hx : covers x f.pc = true) (h0 : x.catchType ≠ 0)
    (hl : s.vm.ClassLinks e.platform f.method.cls x.catchType c) (hcell : s.heap[a]? = some cell) (hobj : ∀ k, cell.vm ≠ .statics k) (hk : ∃ k, s.vm.classes[cell.cls]? = some k) (hc : ∃ k, s.vm.classes[c]? = some k) (hyes : s.vm.assignable cell.cls c = true) :
    wp (findHandler.go f a (x :: t)) Q E e d acts s ↔ Q (.found x.handlerPc) d acts (s.setVm (s.vm.noted f.method.cls x.catchType (.cls c))) := by
  simp only [covers] at hx
  obtain ⟨ha, ht⟩ := (resolveClass_links e.toSetting hl).op (op := VmOp.resolveClass f.method.cls x.catchType) rfl
  have hal : s.vm.Alike (s.vm.noted f.method.cls x.catchType (.cls c)) := (Vm.Alike.refl s.vm).noted _ _ _
  obtain ⟨k1, hk1⟩ := hk
  obtain ⟨k2, hk2⟩ := hc
  obtain ⟨k1', hk1', -⟩ := hal.2.2 _ _ hk1
  obtain ⟨k2', hk2', -⟩ := hal.2.2 _ _ hk2
  have hy' : (s.vm.noted f.method.cls x.catchType (.cls c)).assignable cell.cls c = true := by rw [hal.assignable]; exact hyes
  simp [findHandler.go, hx, h0, ha, ht, hcell, hobj, hk1', hk2', hy', VmOp.dirties, VmOp.acts]
theorem zfh_no {Q : Handler → Pre} {E : CtlPost} {e : Env} {d : Bool} {acts : List Action} {s : State} {f : JFrame} {a : Addr} {x : ExceptionTableEntry} {t : List ExceptionTableEntry} {c : ClassId} {cell : Cell} (hx : covers x f.pc = true) (h0 : x.catchType ≠ 0)
    (hl : s.vm.ClassLinks e.platform f.method.cls x.catchType c) (hcell : s.heap[a]? = some cell) (hobj : ∀ k, cell.vm ≠ .statics k) (hk : ∃ k, s.vm.classes[cell.cls]? = some k) (hc : ∃ k, s.vm.classes[c]? = some k) (hno : s.vm.assignable cell.cls c = false) :
    wp (findHandler.go f a (x :: t)) Q E e d acts s ↔ wp (findHandler.go f a t) Q E e d acts (s.setVm (s.vm.noted f.method.cls x.catchType (.cls c))) := by
  simp only [covers] at hx
  obtain ⟨ha, ht⟩ := (resolveClass_links e.toSetting hl).op (op := VmOp.resolveClass f.method.cls x.catchType) rfl
  have hal : s.vm.Alike (s.vm.noted f.method.cls x.catchType (.cls c)) := (Vm.Alike.refl s.vm).noted _ _ _
  obtain ⟨k1, hk1⟩ := hk
  obtain ⟨k2, hk2⟩ := hc
  obtain ⟨k1', hk1', -⟩ := hal.2.2 _ _ hk1
  obtain ⟨k2', hk2', -⟩ := hal.2.2 _ _ hk2
  have hy' : (s.vm.noted f.method.cls x.catchType (.cls c)).assignable cell.cls c = false := by rw [hal.assignable]; exact hno
  simp [findHandler.go, hx, h0, ha, ht, hcell, hobj, hk1', hk2', hy', VmOp.dirties, VmOp.acts]
theorem z_caught {tb : Tables} {e : Env} {s target : State} {g : JFrame} {c : Code} {below : List Frame} {a : Addr} (h : At s g.method c below) {pc : Nat} {vm' : Vm}
    (hfind : ∀ (Q : Handler → Pre) (E : CtlPost) (d : Bool) (acts : List Action), wp (findHandler g a) Q E e d acts ((s.setTop g).pushFrame (.throwing a)) ↔ Q (.found pc) d acts (((s.setTop g).pushFrame (.throwing a)).setVm vm'))
    (hrest : Steps tb e below ((s.setVm vm').setTop { g with pc := pc, stack := [.ref a] }) target) : Steps tb e below ((s.setTop g).pushFrame (.throwing a)) target := by
  obtain ⟨hgo, hw⟩ := h.throwing a
  refine Steps.head hgo hw ?_
  have hst : (stepThrowing e ((s.setTop g).pushFrame (.throwing a)) a (.java g :: s.frames.tail)).Is ((((s.setTop g).pushFrame (.throwing a)).setVm vm').setFrames (.java { g with pc := pc, stack := [.ref a] } :: s.frames.tail)) [] := by
    simp only [stepThrowing, searchFrame, vmDo]
    generalize hr : Sem.go _ e false [] ((s.setTop g).pushFrame (.throwing a)) = res
    obtain ⟨as, rfl, ha⟩ := Sem.eq_ok_of hr (a := Handler.found pc) (s' := ((s.setTop g).pushFrame (.throwing a)).setVm vm') (acts' := []) (by simp [hfind _ _ _ _])
    exact ⟨rfl, ha⟩
  rw [stepThread_throwing (frames_entered h.top _), hst.1]
  obtain ⟨g₀, hg⟩ := Option.isSome_iff_exists.mp h.top
  obtain ⟨r, hr⟩ := State.topJava?_eq_some.mp hg
  have hr2 : (s.setVm vm').frames = .java g₀ :: r := hr
  rw [State.pushFrame_setVm, State.pushFrame, State.setFrames_setFrames]
  rw [State.setTop_of_frames _ hr2] at hrest
  have e9 : (s.setTop g).setVm vm' = (s.setVm vm').setFrames (.java g :: r) := by rw [State.setTop_of_frames _ hr]; rfl
  rw [e9, State.setFrames_setFrames, hr]
  exact hrest
def znC (X : zCx) (a b : String) : Prop := va_Nc a b (zs X)
theorem znC_of {X : zCx} (G : zG X) {a b : String} (ha : (a, a) ∈ zCT) (hb : (b, b) ∈ zCT) (h : Jvm.Cond.not (.castable a b) ∈ flatC (Jvm.Cond.and given_1 narrow_1)) : znC X a b := by
  have h1 := zflat G h
  obtain ⟨c, -, h2, -⟩ := zct G (State.WarmedH.refl _) ha
  obtain ⟨c', -, h3, -⟩ := zct G (State.WarmedH.refl _) hb
  have hv := Cond.holds_not_iff.mp h1
  simp only [Cond.value, h2, h3] at hv
  exact ⟨c, c', h2, h3, Option.some.inj hv⟩
section ZX9
variable {X : zCx} {M : zMI} {f : zFr} {h : zHp} {pc : Nat} {L : zLo} {Q : zRs → zHp → Prop}
/-- caught by the method's one row, or by its first -/
theorem zt_first {E nm : String} {a1 b1 c1 d1 : Nat} {r : List (Nat × Nat × Nat × Nat)} (hhh : zHh M = (a1, b1, c1, d1) :: r) (hcv : (Nat.ble a1 pc && Nat.blt pc b1) = true) (h0 : d1 ≠ 0) (hlk : Jvm.Cond.classLink (zNm M).cls d1 nm ∈ lw_tbl) (hct : (E, nm) ∈ zCT) (kk : ∀ q : Nat, Z X M f h c1 L [.ref q] Q) : ZT X M f h pc L E Q := by
  intro p ev s m args below meth c H locs ls st q ce E9 hR hn hk hlo hl hc hv hcl T hT X9
  obtain ⟨hG, hM, hx, hb, hr, hlock, hml, hown, hW, -, -, htab⟩ := id E9
  rw [hhh] at htab
  obtain ⟨x, rest, hsp, hx1, hx2⟩ := List.map_eq_cons_iff.mp htab
  simp only [Prod.mk.injEq] at hx1
  obtain ⟨e1, e2, e3, e4⟩ := hx1
  have hpl : ev.platform.magicAccessors = ({} : Platform).magicAccessors := by rw [X9.admits.platform]
  obtain ⟨c9, t9, w1, w2, w3⟩ := zct hG hW hct
  have hce : s.vm.findClass E = some ce.cls := by rw [hW.alike.findClass]; exact hcl
  have e9 : c9 = ce.cls := Option.some.inj (w1.symm.trans hce)
  subst e9
  obtain ⟨c5, hc5, hcl5⟩ := Cond.classLink_spec hown (zw hG (args := args) hW hlk rfl) ev.platform hpl
  have e8 : t9 = c5 := Option.some.inj (w2.symm.trans hc5)
  subst e8
  simp only [Bool.and_eq_true] at hcv
  have hcov : covers x pc = true := by
    simp only [covers, Bool.and_eq_true, decide_eq_true_eq]
    rw [e1, e2]
    exact ⟨Nat.le_of_ble_eq_true hcv.1, Nat.le_of_ble_eq_true hcv.2⟩
  have hWT := X9.warmed
  have hclT := hWT.classLinks hcl5
  obtain ⟨dk, _, _, kt, hd, _, _, _, _, hkt, _, hopn⟩ := hcl5.here
  obtain ⟨k9, hk9⟩ := Vm.classAt_of_findClass hce
  obtain ⟨k9', hk9', -⟩ := hWT.alike.2.2 _ _ hk9
  obtain ⟨kt', hkt', -⟩ := hWT.alike.2.2 _ _ hkt
  have hW2 : s.WarmedH (T.vm.noted m.cls x.catchType (.cls t9)) := by rw [e4]; exact hWT.noted hd hopn (State.rightAt_cls hcl5)
  obtain ⟨t, a1', b1'⟩ := kk q p ev s m args below meth c H locs ls E9 hR hn hk hlo hl (T.setVm (T.vm.noted m.cls x.catchType (.cls t9))) hT (X9.noted hW2)
  refine ⟨t, z_caught (c := c) (pc := x.handlerPc) (vm' := T.vm.noted m.cls x.catchType (.cls t9)) X9.here (fun Q9 E8 d acts => ?_) (by rw [e3]; exact a1'), b1'⟩
  rw [W.findHandler_eq (meth := meth) (code := c) X9.method' X9.code, hsp]
  exact zfh_yes (f := F0 m pc ls st) hcov (by rw [e4]; exact h0) (by rw [e4]; exact hclT) (show T.heap[q]? = some ce by rw [hT]; exact hc) (fun k hk9 => by rw [hv] at hk9; cases hk9) ⟨k9', hk9'⟩ ⟨kt', hkt'⟩ (by show T.vm.assignable _ _ = true; rw [hWT.alike.assignable]; exact w3)
/-- passed by the first row, caught by the second -/
theorem zt_second {E nm nm1 : String} {a1 b1 c1 d1 a2 b2 c2 d2 : Nat} {r : List (Nat × Nat × Nat × Nat)} (hhh : zHh M = (a1, b1, c1, d1) :: (a2, b2, c2, d2) :: r) (hcv1 : (Nat.ble a1 pc && Nat.blt pc b1) = true) (hcv : (Nat.ble a2 pc && Nat.blt pc b2) = true) (h01 : d1 ≠ 0) (h0 : d2 ≠ 0) (hlk1 : Jvm.Cond.classLink (zNm M).cls d1 nm1 ∈ lw_tbl) (hno : znC X E nm1) (hlk : Jvm.Cond.classLink (zNm M).cls d2 nm ∈ lw_tbl) (hct : (E, nm) ∈ zCT) (kk : ∀ q : Nat, Z X M f h c2 L [.ref q] Q) : ZT X M f h pc L E Q := by
  intro p ev s m args below meth c H locs ls st q ce E9 hR hn hk hlo hl hc hv hcl T hT X9
  obtain ⟨hG, hM, hx, hb, hr, hlock, hml, hown, hW, -, -, htab⟩ := id E9
  rw [hhh] at htab
  obtain ⟨x1, rest1, hsp1, hx1, hx2⟩ := List.map_eq_cons_iff.mp htab
  obtain ⟨x, rest, hsp, hx3, hx4⟩ := List.map_eq_cons_iff.mp hx2
  simp only [Prod.mk.injEq] at hx1 hx3
  obtain ⟨y1, y2, y3, y4⟩ := hx1
  obtain ⟨e1, e2, e3, e4⟩ := hx3
  have hpl : ev.platform.magicAccessors = ({} : Platform).magicAccessors := by rw [X9.admits.platform]
  obtain ⟨c9, t9, w1, w2, w3⟩ := zct hG hW hct
  have hce : s.vm.findClass E = some ce.cls := by rw [hW.alike.findClass]; exact hcl
  have e9 : c9 = ce.cls := Option.some.inj (w1.symm.trans hce)
  subst e9
  obtain ⟨c5, hc5, hcl5⟩ := Cond.classLink_spec hown (zw hG (args := args) hW hlk rfl) ev.platform hpl
  have e8 : t9 = c5 := Option.some.inj (w2.symm.trans hc5)
  subst e8
  obtain ⟨c6, hc6, hcl6⟩ := Cond.classLink_spec hown (zw hG (args := args) hW hlk1 rfl) ev.platform hpl
  obtain ⟨u1, u2, n1, n2, n3⟩ := hno
  have z1 : u1 = ce.cls := Option.some.inj (n1.symm.trans hcl)
  have z2 : u2 = c6 := by rw [hW.alike.findClass] at hc6; exact Option.some.inj (n2.symm.trans hc6)
  subst z1 z2
  simp only [Bool.and_eq_true] at hcv hcv1
  have hcov : covers x pc = true := by
    simp only [covers, Bool.and_eq_true, decide_eq_true_eq]
    rw [e1, e2]
    exact ⟨Nat.le_of_ble_eq_true hcv.1, Nat.le_of_ble_eq_true hcv.2⟩
  have hcov1 : covers x1 pc = true := by
    simp only [covers, Bool.and_eq_true, decide_eq_true_eq]
    rw [y1, y2]
    exact ⟨Nat.le_of_ble_eq_true hcv1.1, Nat.le_of_ble_eq_true hcv1.2⟩
  have hWT := X9.warmed
  obtain ⟨dk6, _, _, kt6, hd6, _, _, _, _, hkt6, _, hopn6⟩ := hcl6.here
  obtain ⟨dk, _, _, kt, hd, _, _, _, _, hkt, _, hopn⟩ := hcl5.here
  have hW1 : s.WarmedH (T.vm.noted m.cls x1.catchType (.cls u2)) := by rw [y4]; exact hWT.noted hd6 hopn6 (State.rightAt_cls hcl6)
  obtain ⟨k9, hk9⟩ := Vm.classAt_of_findClass hce
  obtain ⟨k9', hk9', -⟩ := hWT.alike.2.2 _ _ hk9
  obtain ⟨kt6', hkt6', -⟩ := hWT.alike.2.2 _ _ hkt6
  obtain ⟨k8', hk8', -⟩ := hW1.alike.2.2 _ _ hk9
  obtain ⟨kt', hkt', -⟩ := hW1.alike.2.2 _ _ hkt
  have hW2 : s.WarmedH ((T.vm.noted m.cls x1.catchType (.cls u2)).noted m.cls x.catchType (.cls t9)) := by rw [e4]; exact hW1.noted hd hopn (State.rightAt_cls hcl5)
  obtain ⟨t, a1', b1'⟩ := kk q p ev s m args below meth c H locs ls E9 hR hn hk hlo hl (T.setVm ((T.vm.noted m.cls x1.catchType (.cls u2)).noted m.cls x.catchType (.cls t9))) hT (X9.noted hW2)
  refine ⟨t, z_caught (c := c) (pc := x.handlerPc) (vm' := (T.vm.noted m.cls x1.catchType (.cls u2)).noted m.cls x.catchType (.cls t9)) X9.here (fun Q9 E8 d acts => ?_) (by rw [e3]; exact a1'), b1'⟩
  rw [W.findHandler_eq (meth := meth) (code := c) X9.method' X9.code, hsp1]
  refine (zfh_no (f := F0 m pc ls st) (s := (T.setTop (F0 m pc ls st)).pushFrame (.throwing q)) hcov1 (by rw [y4]; exact h01) (by rw [y4]; exact hWT.classLinks hcl6) (show T.heap[q]? = some ce by rw [hT]; exact hc) (fun k hk9 => by rw [hv] at hk9; cases hk9) ⟨k9', hk9'⟩ ⟨kt6', hkt6'⟩ (by show T.vm.assignable _ _ = false; rw [hWT.alike.assignable, hW.alike.assignable]; exact n3)).trans ?_
  rw [hsp]
  exact zfh_yes (f := F0 m pc ls st) (s := ((T.setTop (F0 m pc ls st)).pushFrame (.throwing q)).setVm (T.vm.noted m.cls x1.catchType (.cls u2))) hcov (by rw [e4]; exact h0) (by rw [e4]; exact hW1.classLinks hcl5) (show T.heap[q]? = some ce by rw [hT]; exact hc) (fun k hk9 => by rw [hv] at hk9; cases hk9) ⟨k8', hk8'⟩ ⟨kt', hkt'⟩ (by show (T.vm.noted m.cls x1.catchType (.cls u2)).assignable _ _ = true; rw [hW1.alike.assignable]; exact w3)
/-- invokevirtual of an inherited method: named x, it is M' of the class owner -/
theorem z_invU {M' : zMI} {x : MethodName} {fr lo b ci : Nat} {fs As st stk : List Value} {Q' : zRs → zHp → Prop} {p0 idx nx t : Nat} {lv : Int32} (hM : ZM X M' fr lo (.ref b :: As) h Q') (hK : zMK M') (hob : h.1 b = some (.inr (ci, fs))) (hci : ci < 13) (hin : Jvm.Cond.instanceMethod (zNm M') ∈ lw_tbl) (hse : Jvm.Cond.selects (zcl ci).1 x (zNm M') ∈ lw_tbl) (hsm : Jvm.Cond.sameMethod x.cls (zNm M').cls x.name x.desc ∈ lw_tbl) (hnm : (zNm M') = ⟨(zNm M').cls, x.name, x.desc⟩) (hf : zlk (zFt M) pc = some (p0, .invokevirtual idx, nx, lv, t)) (hr : zML[t]? = some ((zNm M).cls, idx, x)) (hln : (parseMethodDescriptor x.desc).map (fun d => d.parameters.length) = some As.length) (hfr : Nat.ble (fr + 1) f.1 = true) (hlc : Nat.ble (8 + (zNL M' + 11) + lo) f.2.1 = true) (hstk : zap (.ref b :: As) st = stk) (hw : Nat.ble (zcat st) 8 = true)
    (kk : ∀ v h', Q' (.inl v) h' → Z X M f h' nx L (v.toList ++ st) Q) (kx : ∀ E h', Q' (.inr E) h' → ZT X M f h' pc L E Q) : Z X M f h pc L stk Q := by
  intro p ev s m args below meth c H locs ls E hR hn hk0 hlo hl T hT X0
  obtain ⟨hG, hMo, hx, hb, -, -, hml, hown, hW, -⟩ := id E
  obtain ⟨d, rfl, -⟩ := zdn hMo hf (n := 2) rfl
  obtain ⟨mk, methM, hnamed, hmethM, hstM, habM⟩ := Cond.instanceMethod_spec (zw hG (args := args) hW hin rfl)
  obtain ⟨mk', methM', cM, hnamed', hmethM', -, -, -, -, -, -, hsigM⟩ := zcode_spec (zw hG (args := args) hW hK.2.2.1 (zcode_good M'))
  cases hnamed.symm.trans hnamed'
  cases hmethM.symm.trans hmethM'
  obtain ⟨c2, r2, m2, q1, q2, q3, q4, kP, hkP, hkPi⟩ := Cond.selects_spec (zw hG (args := args) hW hse rfl)
  obtain ⟨cn, ck, r1, hcn, hck, hni, hff, hn1⟩ := Cond.sameMethod_found (zw hG (args := args) hW hsm rfl)
  have hnx : s.methodNamed? ⟨(zNm M').cls, x.name, x.desc⟩ = some mk := by rw [← hnm]; exact hnamed
  cases hnx.symm.trans hn1
  obtain ⟨r', hr', cellB, g1, g2, g3, -⟩ := z_at hR hob
  have hcls : s.vm.findClass (zcl ci).1 = some cellB.cls := by
    rw [g2]
    exact ((zKs hG hW).1 ci _ (zcl_ok ci hci).1).2.1
  cases hcls.symm.trans q1
  cases hff.symm.trans q2
  cases hnamed.symm.trans q3
  have hselP : selectMethod ev.platform s.vm cellB.cls mk = .method mk := by rw [Launch.admits_selectMethod X0.admits]; exact q4
  have hdx : (zNm M').desc = x.desc := by rw [hnm]
  have hlen : As.length = methM.sig.parameters.length := by rw [← hdx, hsigM] at hln; exact (Option.some.inj hln).symm
  rw [zap_eq] at hstk
  obtain ⟨vm₁, X₁, hstep₁⟩ := X0.invokevirtualUp hx hown (zw hG hW (zML_in hr) rfl) (zw hG hW hsm rfl) hK.2.2.2.2 hnx hmethM hstM (a := b) (cell := cellB) (by rw [hT]; exact g1)
    (fun z hz => by rw [g3] at hz; cases hz) hselP hmethM habM hkP hkPi (g := F0 m pc ls stk) rfl (argsL := As) (rest := st) hlen (by rw [← hstk]; simp) (by rw [hb]; exact d)
  exact z_goon hM hK hfr hlc hw kk kx E hR hn hk0 hlo hl hT X₁ (X₁.named hnamed) d (fun target hh => hstep₁ _ fun acts => by rw [doInvoke_state]; exact hh)
/-- the script -/
def zScr (X : zCx) (b n : Nat) (xs : Nat → Int32) : Prop := b < zB X ∧ va_X b n xs (zs X) (zs X).heap
theorem z_sld {b n p0 nx t : Nat} {xs : Nat → Int32} {i lv : Int32} {st : List Value} (j : Nat) (hS : zScr X b n xs) (hf : zlk (zFt M) pc = some (p0, .iaload, nx, lv, t)) (hi : i.toInt = (j : Int)) (hj : j < n) (kk : Z X M f h nx L (.int (xs j) :: st) Q) : Z X M f h pc L (.int i :: .ref b :: st) Q := by
  intro p ev s m args below meth c H locs ls E hR hn hk0 hlo hl
  obtain ⟨hG, hM, hx, hb, -, -, -, hown, hW, -⟩ := id E
  obtain ⟨d, rfl, -⟩ := zdn hM hf (n := 0) rfl
  obtain ⟨hin, hcl⟩ := z_ix hi hj
  obtain ⟨hbl, scr, h1, h2, h3, h4, h5⟩ := hS
  refine W.iald (v := .int (xs j)) hx hb (by rw [hR.2.2.1 b hbl]; exact h1) (State.isArrayOf_alike hW.alike h2) h3 (by rw [h4]; exact hin) (by rw [hcl]; exact h5 _ hj) rfl rfl d (kk p ev s m args below meth c H locs ls E hR hn hk0 hlo hl)
theorem z_slen {b n p0 nx t : Nat} {xs : Nat → Int32} {lv : Int32} {st : List Value} (hS : zScr X b n xs) (hf : zlk (zFt M) pc = some (p0, .arraylength, nx, lv, t)) (kk : Z X M f h nx L (.int (nI n) :: st) Q) : Z X M f h pc L (.ref b :: st) Q := by
  intro p ev s m args below meth c H locs ls E hR hn hk0 hlo hl
  obtain ⟨hG, hM, hx, hb, -, -, -, hown, hW, -⟩ := id E
  obtain ⟨d, rfl, -⟩ := zdn hM hf (n := 0) rfl
  obtain ⟨hbl, scr, h1, h2, h3, h4, h5⟩ := hS
  exact W.alen (n := nI n) hx hb (by rw [hR.2.2.1 b hbl]; exact h1) (State.isArrayOf_alike hW.alike h2) (by rw [h4]; rfl) rfl rfl d (kk p ev s m args below meth c H locs ls E hR hn hk0 hlo hl)
end ZX9
