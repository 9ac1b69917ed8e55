/-- the callee's end, seen by the caller -/
def zBk9 (X : zCx) (p : Program) (e : Env) (R : Room) (s : State) (m : MethodId) (sargs : Array Value) (below : List Frame) (meth : Method) (c : Code) (Ls : List Loc) (c0 s0 : Nat) (g : JFrame) (len : Nat) (h : zHp) (Q : zRs → zHp → Prop) (from9 : State) : Prop :=
  ∃ (r : zRs) (h' : zHp) (U' : State) (L : List Loc), Stand p (zl X) e R s m sargs below meth c U' (Ls ++ L) (c0 + (h'.2.1 - h.2.1)) (s0 + (h'.2.2 - h.2.2)) ∧ Q r h' ∧ zR X h' U'.heap ∧ h.2.1 ≤ h'.2.1 ∧ h.2.2 ≤ h'.2.2 ∧ (∀ q ∈ L, zB X ≤ q.base) ∧
    match r with
    | .inl v => Steps p.tables e below from9 (U'.setTop { g with pc := g.pc + len, stack := v.toList ++ g.stack })
    | .inr E => ∃ (q : Nat) (ce : Cell), U'.heap[q]? = some ce ∧ ce.vm = .none ∧ (zs X).vm.findClass E = some ce.cls ∧ Steps p.tables e below from9 ((U'.setTop g).pushFrame (.throwing q))
theorem z_back {X : zCx} {M' : zMI} {fr lo : Nat} {av : List Value} {h : zHp} {Q' : zRs → zHp → Prop} (hM : ZM X M' fr lo av h Q') (G : zG X) (hK : zMK M') {p : Program} {e : Env} {R : Room} {s : State} {m : MethodId} {sargs : Array Value} {below : List Frame} {meth : Method} {c : Code} {U : State} {Ls : List Loc} {c0 s0 W9 : Nat}
    (X0 : Stand p (zl X) e R s m sargs below meth c U Ls c0 s0) (hW : (zs X).WarmedH U.vm) (hR : zR X h U.heap) (hframes : fr + 1 ≤ R.frames) (hlocals : W9 + (zNL M' + 11) + lo ≤ R.locals) (hc : c0 + (zB X + 601024 - h.2.1) ≤ R.cells) (hs : s0 + (7293000 - h.2.2) ≤ R.slots)
    {g : JFrame} (hg : g.method = m) (hsize : g.locals.size = c.maxLocals) {ig : Instr} {len : Nat} (hdg : decode c.code g.pc = .ok (ig, len)) (hW9 : 2 * g.monitorRoom + (g.stack.map fun v => v.category).sum ≤ W9) {mk : MethodId} (hn : U.methodNamed? (zNm M') = some mk) :
    zBk9 X p e R s m sargs below meth c Ls c0 s0 g len h Q' (doInvoke e (U.setTop g) [] mk av.toArray).1 := by
  have hpre : (headSpec zTb (zRm X (fr, lo, h.2.1, h.2.2))).pre.before av.toArray U = true := atoms_intro fun w hw => zw G hW (List.mem_filter.mp hw).1 (List.mem_filter.mp hw).2
  obtain ⟨m9, methY, cY, g0, hmY, hcY, -, hlY, -, -, -, -⟩ := zcode_spec (zw G (args := av.toArray) hW hK.2.2.1 (zcode_good M'))
  cases hn.symm.trans g0
  obtain ⟨kY, hkY, -⟩ := className_of_methodNamed hn
  have hinitY : kY.init = .initialized := Cond.initialized_spec (findClass_of_methodNamed hn) hkY (zw G (args := av.toArray) hW hK.2.2.2.1 rfl)
  have h9 : At U g.method c below := by rw [hg]; exact X0.here
  have happ : (headSpec zTb (zRm X (fr, lo, h.2.1, h.2.2))).appliesLoose (zNm M') e.platform (U.calling g mk av.toArray) = true :=
    Spec.appliesLoose_calling (g := g) h9 hdg hn hkY hinitY
      (X0.room_calling (g := g) (R' := zRm X (fr, lo, h.2.1, h.2.2)) hsize hmY hcY hframes (by rw [hlY]; show _ + lo ≤ _; omega) hc hs) hpre
  obtain ⟨mid, hmid⟩ := h9.above
  have hfr : (U.setTop g).frames = (.java g :: mid) ++ below := by rw [State.frames_setTop' g h9.top, hmid]; rfl
  obtain ⟨o, s₂, hsteps, -, hend, hq⟩ := Steps.callFree hM p X0.admits X0.cas X0.clock (acts := []) hfr happ ⟨rfl, hW, hR⟩ trivial
  rw [State.frames_setTop' g h9.top] at hend
  obtain ⟨g₀, hg0⟩ := Option.isSome_iff_exists.mp h9.top
  obtain ⟨rr, hr⟩ := State.topJava?_eq_some.mp hg0
  have hr' : (({ U with heap := s₂.heap, slotsUsed := s₂.slotsUsed } : State).setVm s₂.vm).frames = .java g₀ :: rr := hr
  have hq' : zEnd X h.2.1 h.2.2 (U.calling g mk av.toArray) o s₂ Q' := hq
  obtain ⟨r, h', hO, hQ, hR', hl1, hl2, hW₂, L, hsm, hLb⟩ := hq'
  obtain ⟨e2, q2, q3, q4, q5, q6⟩ := id hsm
  have e3 : s₂ = ({ (U.calling g mk av.toArray).setFrames s₂.frames with heap := s₂.heap, slotsUsed := s₂.slotsUsed } : State).setVm s₂.vm := by
    have : s₂ = ({ s₂ with vm := (U.calling g mk av.toArray).vm } : State).setVm s₂.vm := rfl
    rw [e2] at this
    exact this
  have hW' : U.WarmedH s₂.vm := hW₂
  have hsame : U.sameButNew ({ U with heap := s₂.heap, slotsUsed := s₂.slotsUsed } : State) L (h'.2.1 - h.2.1) (h'.2.2 - h.2.2) := by
    refine ⟨?_, q2, q3, q4, q5, q6⟩
    obtain ⟨t, ht, -⟩ := State.frames_cons hr
    show ({ U with heap := s₂.heap, slotsUsed := s₂.slotsUsed } : State) = { U.setFrames U.frames with heap := s₂.heap, slotsUsed := s₂.slotsUsed }
    rw [State.setFrames_self ht]
  have hcc := hg
  have hst : Stand p (zl X) e R s m sargs below meth c (({ U with heap := s₂.heap, slotsUsed := s₂.slotsUsed } : State).setVm s₂.vm) (Ls ++ L) (c0 + (h'.2.1 - h.2.1)) (s0 + (h'.2.2 - h.2.2)) :=
    ⟨X0.admits, X0.cas, X0.clock, X0.frames, X0.room, X0.hears, X0.method, X0.code, (X0.here.setHeapUsed s₂.heap s₂.slotsUsed).setVm hW'.alike, X0.tail, State.WarmedH.trans X0.warmed hW', X0.limits, X0.bytes, X0.same.trans (hsame.setVm s.vm)⟩
  refine ⟨r, h', _, L, hst, hQ, hR', hl1, hl2, hLb, ?_⟩
  cases r with
  | inl v =>
    have hv : o = .returned v := hO
    subst hv
    obtain ⟨c₂, i₂, len₂, hc₂, hd₂, hf₂⟩ := hend
    have hcc : c₂ = c := by
      have h1 : s₂.code? g.method = U.code? g.method := by
        rw [State.code?_eq, State.code?_eq, hW'.alike.method?]
      exact Option.some.inj (hc₂.symm.trans (h1.trans h9.code))
    subst hcc
    have hlen : len₂ = len := by rw [hdg] at hd₂; cases hd₂; rfl
    subst hlen
    have hs₂ : s₂ = (({ U with heap := s₂.heap, slotsUsed := s₂.slotsUsed } : State).setVm s₂.vm).setTop { g with pc := g.pc + len₂, stack := v.toList ++ g.stack } := by
      refine e3.trans ?_
      rw [hf₂, State.calling_eq h9.top, State.setFrames_setFrames, State.setTop_of_frames _ hr', hr]
      rfl
    show Steps p.tables e below _ ((({ U with heap := s₂.heap, slotsUsed := s₂.slotsUsed } : State).setVm s₂.vm).setTop { g with pc := g.pc + len₂, stack := v.toList ++ g.stack })
    rw [← hs₂]
    exact hsteps
  | inr E =>
    obtain ⟨q, ce, hoq, hce, hcv, hcl⟩ := hO
    subst hoq
    have hf₂ : s₂.frames = .throwing q :: .java g :: U.frames.tail := hend
    have hs₂ : s₂ = ((({ U with heap := s₂.heap, slotsUsed := s₂.slotsUsed } : State).setVm s₂.vm).setTop g).pushFrame (.throwing q) := by
      refine e3.trans ?_
      rw [hf₂, State.calling_eq h9.top, State.setFrames_setFrames, State.pushFrame, State.frames_setTop _ hr', State.setTop_of_frames _ hr', State.setFrames_setFrames, hr]
      rfl
    refine ⟨q, ce, hce, hcv, hcl, ?_⟩
    show Steps p.tables e below _ (((({ U with heap := s₂.heap, slotsUsed := s₂.slotsUsed } : State).setVm s₂.vm).setTop g).pushFrame (.throwing q))
    rw [← hs₂]
    exact hsteps
def zap : List Value → List Value → List Value
  | [], st => st
  | a :: r, st => zap r (a :: st)
theorem zap_eq (As st : List Value) : zap As st = As.reverse ++ st := by
  induction As generalizing st with
  | nil => rfl
  | cons a r ih => simp [zap, ih]
def zcat (st : List Value) : Nat := (st.map fun v => v.category).sum
section ZV
variable {X : zCx} {M : zMI} {f : zFr} {h : zHp} {pc : Nat} {L : zLo} {Q : zRs → zHp → Prop}
/-- behind a call: what all kinds of call have in common -/
theorem z_goon {M' : zMI} {fr lo : Nat} {av st : List Value} {Q' : zRs → zHp → Prop} (hM : ZM X M' fr lo av h Q') (hK : zMK M') (hfr : Nat.ble (fr + 1) f.1 = true) (hlc : Nat.ble (8 + (zNL M' + 11) + lo) f.2.1 = true) (hw : Nat.ble (zcat st) 8 = true)
    (kk : ∀ v h', Q' (.inl v) h' → Z X M f h' (pc + 3) L (v.toList ++ st) Q) (kx : ∀ E h', Q' (.inr E) h' → ZT X M f h' pc L E Q)
    {p : Program} {ev : Env} {s : State} {m : MethodId} {args : Array Value} {below : List Frame} {meth : Method} {c : Code} {H : Heap} {locs : List Loc} {ls : Array Slot} {stk : List Value} (E : zE X M f.2.2.1 p s m meth c) (hR : zR X h H) (hn : f.2.2.1 ≤ h.2.1) (hk0 : f.2.2.2 ≤ h.2.2) (hlo : ∀ q ∈ locs, zB X ≤ q.base) (hl : zLs ls (zNL M) L)
    {T : State} (hT : T.heap = H) {vm₁ : Vm} (X₁ : Stand p (zl X) ev (zRm X f) s m args below meth c (T.setVm vm₁) locs (h.2.1 - f.2.2.1) (h.2.2 - f.2.2.2)) {mk : MethodId} (hnm : (T.setVm vm₁).methodNamed? (zNm M') = some mk) {ig : Instr} (hdg : decode (zCd M) pc = .ok (ig, 3))
    (hst : ∀ target, Steps p.tables ev below (doInvoke ev ((T.setVm vm₁).setTop (F0 m pc ls st)) [] mk av.toArray).1 target → Steps p.tables ev below (T.setTop (F0 m pc ls stk)) target) :
    ∃ t, Steps p.tables ev below (T.setTop (F0 m pc ls stk)) t ∧ zF X f.2.2.1 f.2.2.2 below s Q t := by
  obtain ⟨hG, hMo, hx, hb, -, -, hml, -, hW, -⟩ := id E
  have l1 := hR.2.2.2.2.1
  have l2 := hR.2.2.2.2.2
  obtain ⟨r, h', U', L9, X', hQ, hR', hm1, hm2, hLb, hr⟩ := z_back (W9 := 8) (g := F0 m pc ls st) (len := 3) (ig := ig) hM hG hK X₁ (State.WarmedH.trans hW X₁.warmed) (by show zR X h T.heap; rw [hT]; exact hR) (Nat.le_of_ble_eq_true hfr) (Nat.le_of_ble_eq_true hlc) (by show _ ≤ zB X + 601024 - f.2.2.1; omega) (by show _ ≤ 7293000 - f.2.2.2; omega) rfl (by show ls.size = _; rw [hml]; obtain ⟨-, l, q1, -⟩ := hl; exact q1.1) (by rw [hb]; exact hdg) (by show 2 * 0 + (st.map fun v => v.category).sum ≤ 8; have := Nat.le_of_ble_eq_true hw; unfold zcat at this; omega) hnm
  have e8 : h.2.1 - f.2.2.1 + (h'.2.1 - h.2.1) = h'.2.1 - f.2.2.1 := by omega
  have e9 : h.2.2 - f.2.2.2 + (h'.2.2 - h.2.2) = h'.2.2 - f.2.2.2 := by omega
  rw [e8, e9] at X'
  have hlo' : ∀ q ∈ locs ++ L9, zB X ≤ q.base := fun q hq => (List.mem_append.mp hq).elim (hlo q) (hLb q)
  cases r with
  | inl v =>
    obtain ⟨t, a1, b1⟩ := kk v h' hQ p ev s m args below meth c U'.heap (locs ++ L9) ls E hR' (by omega) (by omega) hlo' hl U' rfl X'
    exact ⟨t, hst _ (hr.trans a1), b1⟩
  | inr E9 =>
    obtain ⟨q, ce, hce, hcv, hcl, hs⟩ := hr
    obtain ⟨t, a1, b1⟩ := kx E9 h' hQ p ev s m args below meth c U'.heap (locs ++ L9) ls st q ce E hR' (by omega) (by omega) hlo' hl hce hcv hcl U' rfl X'
    exact ⟨t, hst _ (hs.trans a1), b1⟩
/-- invokestatic -/
theorem z_invS {M' : zMI} {fr lo : Nat} {As st stk : List Value} {Q' : zRs → zHp → Prop} {p0 idx nx t : Nat} {lv : Int32} (hM : ZM X M' fr lo As h Q') (hK : zMK M') (hsa : Jvm.Cond.static (zNm M') ∈ lw_tbl) (hf : zlk (zFt M) pc = some (p0, .invokestatic idx, nx, lv, t)) (hr : zML[t]? = some ((zNm M).cls, idx, zNm M')) (hln : (parseMethodDescriptor (zNm M').desc).map (fun d => d.parameters.length) = some As.length) (hfr : Nat.ble (fr + 1) f.1 = true) (hlc : Nat.ble (8 + (zNL M' + 11) + lo) f.2.1 = true) (hstk : zap As st = stk) (hw : Nat.ble (zcat st) 8 = true)
    (kk : ∀ v h', Q' (.inl v) h' → Z X M f h' nx L (v.toList ++ st) Q) (kx : ∀ E h', Q' (.inr E) h' → ZT X M f h' pc L E Q) : Z X M f h pc L stk Q := by
  intro p ev s m args below meth c H locs ls E hR hn hk0 hlo hl T hT X0
  obtain ⟨hG, hMo, hx, hb, -, -, hml, hown, hW, -⟩ := id E
  obtain ⟨d, rfl, -⟩ := zdn hMo hf (n := 2) rfl
  obtain ⟨mk, methM, cM, hnamed, hmethM, -, -, -, -, -, -, hsigM⟩ := zcode_spec (zw hG (args := args) hW hK.2.2.1 (zcode_good M'))
  have hstatic : methM.isStatic = true := Cond.static_spec hnamed hmethM (zw hG (args := args) hW hsa rfl)
  obtain ⟨kP, hkP, -⟩ := className_of_methodNamed hnamed
  have hinitP : kP.init = .initialized := Cond.initialized_spec (findClass_of_methodNamed hnamed) hkP (zw hG (args := args) hW hK.2.2.2.1 rfl)
  have hlen : As.length = methM.sig.parameters.length := by rw [hsigM] at hln; exact (Option.some.inj hln).symm
  rw [zap_eq] at hstk
  obtain ⟨vm₁, X₁, hstep₁⟩ := X0.invokestatic hx hown (zw hG hW (zML_in hr) rfl) hnamed hmethM hstatic hkP hinitP hK.2.2.2.2 (g := F0 m pc ls stk) rfl (argsL := As) (rest := st) hlen hstk.symm (by rw [hb]; exact d)
  exact z_goon hM hK hfr hlc hw kk kx E hR hn hk0 hlo hl hT X₁ (X₁.named hnamed) d (fun target hh => hstep₁ _ fun acts => by rw [doInvoke_state]; exact hh)
/-- invokestatic across the nest -/
theorem z_invN {M' : zMI} {fr lo : Nat} {As st stk : List Value} {Q' : zRs → zHp → Prop} {p0 idx nx t : Nat} {lv : Int32} {host : String} (hM : ZM X M' fr lo As h Q') (hK : zMK M') (hsa : Jvm.Cond.static (zNm M') ∈ lw_tbl) (hf : zlk (zFt M) pc = some (p0, .invokestatic idx, nx, lv, t)) (hr : zMN[t]? = some ((zNm M).cls, idx, zNm M', host)) (hln : (parseMethodDescriptor (zNm M').desc).map (fun d => d.parameters.length) = some As.length) (hfr : Nat.ble (fr + 1) f.1 = true) (hlc : Nat.ble (8 + (zNL M' + 11) + lo) f.2.1 = true) (hstk : zap As st = stk) (hw : Nat.ble (zcat st) 8 = true)
    (kk : ∀ v h', Q' (.inl v) h' → Z X M f h' nx L (v.toList ++ st) Q) (kx : ∀ E h', Q' (.inr E) h' → ZT X M f h' pc L E Q) : Z X M f h pc L stk Q := by
  intro p ev s m args below meth c H locs ls E hR hn hk0 hlo hl T hT X0
  obtain ⟨hG, hMo, hx, hb, -, -, hml, hown, hW, -⟩ := id E
  obtain ⟨d, rfl, -⟩ := zdn hMo hf (n := 2) rfl
  obtain ⟨mk, methM, cM, hnamed, hmethM, -, -, -, -, -, -, hsigM⟩ := zcode_spec (zw hG (args := args) hW hK.2.2.1 (zcode_good M'))
  have hstatic : methM.isStatic = true := Cond.static_spec hnamed hmethM (zw hG (args := args) hW hsa rfl)
  obtain ⟨kP, hkP, -⟩ := className_of_methodNamed hnamed
  have hinitP : kP.init = .initialized := Cond.initialized_spec (findClass_of_methodNamed hnamed) hkP (zw hG (args := args) hW hK.2.2.2.1 rfl)
  have hlen : As.length = methM.sig.parameters.length := by rw [hsigM] at hln; exact (Option.some.inj hln).symm
  have hlink : va_Nw (.methodLinkNest (zNm M).cls idx (zNm M') host) s := va_Nw.warmM hW (va_Nw.of rfl (hG.1 _ (zMN_in hr)))
  rw [zap_eq] at hstk
  obtain ⟨vm₁, X₁, hstep₁⟩ := X0.invokestaticNest hx hown (va_Nw.use rfl hlink) hnamed hmethM hstatic hkP hinitP hK.2.2.2.2 (g := F0 m pc ls stk) rfl (argsL := As) (rest := st) hlen hstk.symm (by rw [hb]; exact d)
  exact z_goon hM hK hfr hlc hw kk kx E hR hn hk0 hlo hl hT X₁ (X₁.named hnamed) d (fun target hh => hstep₁ _ fun acts => by rw [doInvoke_state]; exact hh)
/-- invokevirtual of a method that the receiver's class ci selects itself -/
theorem z_invV {M' : zMI} {fr lo b ci : Nat} {fs As st stk : List Value} {Q' : zRs → zHp → Prop} {p0 idx nx t : Nat} {lv : Int32} (hM : ZM X M' fr lo (.ref b :: As) h Q') (hK : zMK M') (hob : h.1 b = some (.inr (ci, fs))) (hci : ci < 13) (hin : Jvm.Cond.instanceMethod (zNm M') ∈ lw_tbl) (hse : Jvm.Cond.selects (zcl ci).1 (zNm M') (zNm M') ∈ lw_tbl) (hf : zlk (zFt M) pc = some (p0, .invokevirtual idx, nx, lv, t)) (hr : zML[t]? = some ((zNm M).cls, idx, zNm M')) (hln : (parseMethodDescriptor (zNm M').desc).map (fun d => d.parameters.length) = some As.length) (hfr : Nat.ble (fr + 1) f.1 = true) (hlc : Nat.ble (8 + (zNL M' + 11) + lo) f.2.1 = true) (hstk : zap (.ref b :: As) st = stk) (hw : Nat.ble (zcat st) 8 = true)
    (kk : ∀ v h', Q' (.inl v) h' → Z X M f h' nx L (v.toList ++ st) Q) (kx : ∀ E h', Q' (.inr E) h' → ZT X M f h' pc L E Q) : Z X M f h pc L stk Q := by
  intro p ev s m args below meth c H locs ls E hR hn hk0 hlo hl T hT X0
  obtain ⟨hG, hMo, hx, hb, -, -, hml, hown, hW, -⟩ := id E
  obtain ⟨d, rfl, -⟩ := zdn hMo hf (n := 2) rfl
  obtain ⟨mk, methM, hnamed, hmethM, hstM, habM⟩ := Cond.instanceMethod_spec (zw hG (args := args) hW hin rfl)
  obtain ⟨mk', methM', cM, hnamed', hmethM', -, -, -, -, -, -, hsigM⟩ := zcode_spec (zw hG (args := args) hW hK.2.2.1 (zcode_good M'))
  cases hnamed.symm.trans hnamed'
  cases hmethM.symm.trans hmethM'
  obtain ⟨c2, r2, m2, q1, q2, q3, q4, kP, hkP, hkPi⟩ := Cond.selects_spec (zw hG (args := args) hW hse rfl)
  obtain ⟨r', hr', cellB, g1, g2, g3, -⟩ := z_at hR hob
  have hcls : s.vm.findClass (zcl ci).1 = some cellB.cls := by
    rw [g2]
    exact ((zKs hG hW).1 ci _ (zcl_ok ci hci).1).2.1
  cases hcls.symm.trans q1
  cases (State.methodFound?_of_named hnamed hK.2.2.2.2).symm.trans q2
  cases hnamed.symm.trans q3
  have hselP : selectMethod ev.platform s.vm cellB.cls mk = .method mk := by rw [Launch.admits_selectMethod X0.admits]; exact q4
  have hlen : As.length = methM.sig.parameters.length := by rw [hsigM] at hln; exact (Option.some.inj hln).symm
  rw [zap_eq] at hstk
  obtain ⟨vm₁, X₁, hstep₁⟩ := X0.invokevirtual hx hown (zw hG hW (zML_in hr) rfl) hnamed hmethM hstM hkP hkPi hK.2.2.2.2 (a := b) (cell := cellB) (by rw [hT]; exact g1)
    (fun z hz => by rw [g3] at hz; cases hz) hselP hmethM habM hkP hkPi (g := F0 m pc ls stk) rfl (argsL := As) (rest := st) hlen (by rw [← hstk]; simp) (by rw [hb]; exact d)
  exact z_goon hM hK hfr hlc hw kk kx E hR hn hk0 hlo hl hT X₁ (X₁.named hnamed) d (fun target hh => hstep₁ _ fun acts => by rw [doInvoke_state]; exact hh)
/-- invokespecial of a constructor -/
theorem z_invI {M' : zMI} {fr lo b : Nat} {As st stk : List Value} {Q' : zRs → zHp → Prop} {p0 idx nx t : Nat} {lv : Int32} (hM : ZM X M' fr lo (.ref b :: As) h Q') (hK : zMK M') (hhh : zHh M' = []) (hrn : zRt M' = none) (hnm : (zNm M').name = "<init>") (hin : Jvm.Cond.instanceMethod (zNm M') ∈ lw_tbl) (hf : zlk (zFt M) pc = some (p0, .invokespecial idx, nx, lv, t)) (hr : zML[t]? = some ((zNm M).cls, idx, zNm M')) (hln : (parseMethodDescriptor (zNm M').desc).map (fun d => d.parameters.length) = some As.length) (hfr : Nat.ble (fr + 1) f.1 = true) (hlc : Nat.ble (8 + (zNL M' + 11) + lo) f.2.1 = true) (hstk : zap (.ref b :: As) st = stk) (hw : Nat.ble (zcat st) 8 = true)
    (kk : ∀ v h', Q' (.inl v) h' → Z X M f h' nx L (v.toList ++ st) Q) (kx : ∀ E h', Q' (.inr E) h' → ZT X M f h' pc L E Q) : Z X M f h pc L stk Q := by
  intro p ev s m args below meth c H locs ls E hR hn hk0 hlo hl T hT X0
  obtain ⟨hG, hMo, hx, hb, -, -, hml, hown, hW, -⟩ := id E
  obtain ⟨d, rfl, -⟩ := zdn hMo hf (n := 2) rfl
  have hpl : ev.platform.magicAccessors = ({} : Platform).magicAccessors := by rw [X0.admits.platform]
  have hcw := zw hG (args := args) hW hK.2.2.1 (zcode_good M')
  have hcw2 : (Jvm.Cond.code (zNm M') (zCd M') (zNL M') none).before args s = true := by
    unfold zcode at hcw
    rw [hhh, hrn] at hcw
    exact hcw
  rw [zap_eq] at hstk
  obtain ⟨mk, methM, cM, kP, vm₁, hnamed, hmethM, hcodeM, -, hlocalsM, -, hkP, -, hW₁, hstep₁⟩ := Steps.initColdArgs (tb := p.tables) (e := ev) X0.here hx X0.warmed hpl hown hnm hK.2.2.2.2 (zw hG (args := args) hW (zML_in hr) rfl) (zw hG (args := args) hW hin rfl) hcw2 (f := F0 m pc ls stk) rfl (argsL := As) (rest := st) (a := b) (fun sig hs9 => by rw [hs9] at hln; exact (Option.some.inj hln).symm) (by show stk = _; rw [← hstk]; simp) (by rw [hb]; exact d)
  have X₁ := X0.noted hW₁
  exact z_goon hM hK hfr hlc hw kk kx E hR hn hk0 hlo hl hT X₁ (X₁.named hnamed) d (fun target hh => hstep₁ _ fun acts => by rw [doInvoke_state]; exact hh)
/-- the constructor of Object -/
theorem z_obj {a : Nat} {st : List Value} {p0 idx nx t : Nat} {lv : Int32} (hf : zlk (zFt M) pc = some (p0, .invokespecial idx, nx, lv, t)) (hr : zML[t]? = some ((zNm M).cls, idx, Lib.objectInit)) (hi : Jvm.Cond.instanceMethod Lib.objectInit ∈ lw_tbl) (hcd : Jvm.Cond.code Lib.objectInit ⟨#[0xb1]⟩ 1 none ∈ lw_tbl) (hfr : Nat.ble 1 f.1 = true) (hlc : Nat.ble 20 f.2.1 = true) (hw : Nat.ble (zcat st) 8 = true) (kk : Z X M f h nx L st Q) : Z X M f h pc L (.ref a :: st) Q := by
  intro p ev s m args below meth c H locs ls E hR hn hk0 hlo hl
  obtain ⟨hG, hMo, hx, hb, -, -, hml, hown, hW, -⟩ := id E
  obtain ⟨d, rfl, -⟩ := zdn hMo hf (n := 2) rfl
  refine W.objInit hx hb hown (zw hG hW (zML_in hr) rfl) (zw hG hW hi rfl) (zw hG hW hcd rfl) rfl (by show ls.size = _; rw [hml]; obtain ⟨-, l, q1, -⟩ := hl; exact q1.1) rfl d (Nat.le_of_ble_eq_true hfr) ?_ (kk p ev s m args below meth c H locs ls E hR hn hk0 hlo hl)
  have h1 := Nat.le_of_ble_eq_true hw
  have h2 := Nat.le_of_ble_eq_true hlc
  unfold zcat at h1
  show 2 * 0 + _ + 12 ≤ f.2.1
  omega
end ZV
