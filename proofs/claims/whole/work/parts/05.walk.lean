/-! a method's table: pc, instruction, next pc, literal, target; in runs with an upper bound each -/
def zlkE : List zEn → Nat → Option zEn
  | [], _ => none
  | e :: r, pc => match Nat.beq e.1 pc with
    | true => some e
    | false => zlkE r pc
def zlk : List (Nat × List zEn) → Nat → Option zEn
  | [], _ => none
  | q :: r, pc => match Nat.blt pc q.1 with
    | true => zlkE q.2 pc
    | false => zlk r pc
def zlen : Instr → Nat
  | .bipush _ => 2
  | .iload _ => 2
  | .lload _ => 2
  | .aload _ => 2
  | .istore _ => 2
  | .lstore _ => 2
  | .astore _ => 2
  | .ldc _ => 2
  | .newarray _ => 2
  | .sipush _ => 3
  | .iinc _ _ => 3
  | .goto _ => 3
  | .ifCond _ _ => 3
  | .if_icmp _ _ => 3
  | .if_acmp _ _ => 3
  | .ifnull _ => 3
  | .ifnonnull _ => 3
  | .getfield _ => 3
  | .putfield _ => 3
  | .getstatic _ => 3
  | .invokevirtual _ => 3
  | .invokespecial _ => 3
  | .invokestatic _ => 3
  | .new _ => 3
  | .anewarray _ => 3
  | .checkcast _ => 3
  | .ldc2_w _ => 3
  | .tableswitch _ _ _ _ => 0
  | .lookupswitch _ _ => 0
  | _ => 1
def zlit (pc : Nat) (ins : Instr) (v : Int32) (t : Nat) : Bool := match ins with
  | .iconst n => decide (Int32.ofInt n = v)
  | .bipush n => decide ((Int8.ofInt n).toInt32 = v)
  | .sipush n => decide ((Int16.ofInt n).toInt32 = v)
  | .iinc _ n => decide (Int32.ofInt n = v)
  | .goto o => decide ((pc : Int) + o = (t : Int))
  | .ifCond _ o => decide ((pc : Int) + o = (t : Int))
  | .if_icmp _ o => decide ((pc : Int) + o = (t : Int))
  | .if_acmp _ o => decide ((pc : Int) + o = (t : Int))
  | .ifnull o => decide ((pc : Int) + o = (t : Int))
  | .ifnonnull o => decide ((pc : Int) + o = (t : Int))
  | _ => true
def zchk (cc : ByteArray) (e : zEn) : Bool := decide (decode cc e.1 = .ok (e.2.1, e.2.2.1 - e.1)) && (decide (zlen e.2.1 = 0) || decide (e.2.2.1 = e.1 + zlen e.2.1)) && zlit e.1 e.2.1 e.2.2.2.1 e.2.2.2.2
def zMOK (M : zMI) : Prop := ∀ q ∈ zFt M, ∀ e ∈ q.2, zchk (zCd M) e = true
theorem zlkE_ok {l : List zEn} {pc : Nat} {e : zEn} (h : zlkE l pc = some e) : e.1 = pc ∧ e ∈ l := by
  induction l with
  | nil => cases h
  | cons a r ih =>
    simp only [zlkE] at h
    split at h
    · rename_i c
      cases h
      exact ⟨Nat.eq_of_beq_eq_true c, List.mem_cons_self⟩
    · obtain ⟨g1, g2⟩ := ih h
      exact ⟨g1, List.mem_cons_of_mem _ g2⟩
theorem zlk_ok {l : List (Nat × List zEn)} {pc : Nat} {e : zEn} (h : zlk l pc = some e) : e.1 = pc ∧ ∃ q ∈ l, e ∈ q.2 := by
  induction l with
  | nil => cases h
  | cons a r ih =>
    simp only [zlk] at h
    split at h
    · obtain ⟨g1, g2⟩ := zlkE_ok h
      exact ⟨g1, a, List.mem_cons_self, g2⟩
    · obtain ⟨g1, q, g2, g3⟩ := ih h
      exact ⟨g1, q, List.mem_cons_of_mem _ g2, g3⟩
theorem zdc {M : zMI} (hM : zMOK M) {pc : Nat} {e : zEn} (h : zlk (zFt M) pc = some e) : decode (zCd M) pc = .ok (e.2.1, e.2.2.1 - pc) ∧ (zlen e.2.1 = 0 ∨ e.2.2.1 = pc + zlen e.2.1) ∧ zlit pc e.2.1 e.2.2.2.1 e.2.2.2.2 = true := by
  obtain ⟨g1, q, g2, g3⟩ := zlk_ok h
  have g := hM q g2 e g3
  simp only [zchk, Bool.and_eq_true, Bool.or_eq_true, decide_eq_true_eq] at g
  rw [g1] at g
  exact ⟨g.1.1, g.1.2, g.2⟩
theorem zdn {M : zMI} (hM : zMOK M) {pc : Nat} {ins : Instr} {nx : Nat} {v : Int32} {t p0 : Nat} (h : zlk (zFt M) pc = some (p0, ins, nx, v, t)) {n : Nat} (hn : zlen ins = n + 1) : decode (zCd M) pc = .ok (ins, n + 1) ∧ nx = pc + (n + 1) ∧ zlit pc ins v t = true := by
  obtain ⟨h1, h2, h3⟩ := zdc hM h
  dsimp only at h1 h2 h3
  rcases h2 with h2 | h2
  · omega
  · rw [hn] at h2
    subst h2
    rw [show pc + (n + 1) - pc = n + 1 by omega] at h1
    exact ⟨h1, rfl, h3⟩
def zc1 : Value → Bool
  | .long _ => false
  | .double _ => false
  | _ => true
theorem zc1_ok {v : Value} (h : zc1 v = true) : v.category = 1 := by cases v <;> simp_all [zc1, Value.category]
/-- an instruction that asks nothing of the heap -/
def zstp (e : zEn) (L : zLo) (st : List Value) : Option (Nat × zLo × List Value) :=
  match e.2.1 with
  | .iconst _ => some (e.2.2.1, L, .int e.2.2.2.1 :: st)
  | .bipush _ => some (e.2.2.1, L, .int e.2.2.2.1 :: st)
  | .sipush _ => some (e.2.2.1, L, .int e.2.2.2.1 :: st)
  | .lconst k => (match k.val with
    | 0 => some (e.2.2.1, L, .long 0 :: st)
    | _ => some (e.2.2.1, L, .long 1 :: st))
  | .aconst_null => some (e.2.2.1, L, .null :: st)
  | .iload i => (match zget L i with
    | some (.int x) => some (e.2.2.1, L, .int x :: st)
    | _ => none)
  | .iload_n k => (match zget L k.val with
    | some (.int x) => some (e.2.2.1, L, .int x :: st)
    | _ => none)
  | .lload i => (match zget L i with
    | some (.long x) => some (e.2.2.1, L, .long x :: st)
    | _ => none)
  | .lload_n k => (match zget L k.val with
    | some (.long x) => some (e.2.2.1, L, .long x :: st)
    | _ => none)
  | .aload i => (match zget L i with
    | some (.ref x) => some (e.2.2.1, L, .ref x :: st)
    | some .null => some (e.2.2.1, L, .null :: st)
    | _ => none)
  | .aload_n k => (match zget L k.val with
    | some (.ref x) => some (e.2.2.1, L, .ref x :: st)
    | some .null => some (e.2.2.1, L, .null :: st)
    | _ => none)
  | .istore i => (match zin L i, st with
    | true, .int x :: r => zfc (zst1 L i (.int x)) (fun L' => some (e.2.2.1, L', r))
    | _, _ => none)
  | .istore_n k => (match zin L k.val, st with
    | true, .int x :: r => zfc (zst1 L k.val (.int x)) (fun L' => some (e.2.2.1, L', r))
    | _, _ => none)
  | .lstore i => (match zin L (i + 1), st with
    | true, .long x :: r => zfc (zst2 L i (.long x)) (fun L' => some (e.2.2.1, L', r))
    | _, _ => none)
  | .lstore_n k => (match zin L (k.val + 1), st with
    | true, .long x :: r => zfc (zst2 L k.val (.long x)) (fun L' => some (e.2.2.1, L', r))
    | _, _ => none)
  | .astore i => (match zin L i, st with
    | true, .ref x :: r => zfc (zst1 L i (.ref x)) (fun L' => some (e.2.2.1, L', r))
    | true, .null :: r => zfc (zst1 L i .null) (fun L' => some (e.2.2.1, L', r))
    | _, _ => none)
  | .astore_n k => (match zin L k.val, st with
    | true, .ref x :: r => zfc (zst1 L k.val (.ref x)) (fun L' => some (e.2.2.1, L', r))
    | true, .null :: r => zfc (zst1 L k.val .null) (fun L' => some (e.2.2.1, L', r))
    | _, _ => none)
  | .iinc i _ => (match zin L i, zget L i with
    | true, some (.int x) => zfc (zst1 L i (.int (x + e.2.2.2.1))) (fun L' => some (e.2.2.1, L', st))
    | _, _ => none)
  | .goto _ => some (e.2.2.2.2, L, st)
  | .ifnull _ => (match st with
    | .ref _ :: r => some (e.2.2.1, L, r)
    | .null :: r => some (e.2.2.2.2, L, r)
    | _ => none)
  | .ifnonnull _ => (match st with
    | .ref _ :: r => some (e.2.2.2.2, L, r)
    | .null :: r => some (e.2.2.1, L, r)
    | _ => none)
  | .iadd => (match st with
    | .int y :: .int x :: r => some (e.2.2.1, L, .int (x + y) :: r)
    | _ => none)
  | .isub => (match st with
    | .int y :: .int x :: r => some (e.2.2.1, L, .int (x - y) :: r)
    | _ => none)
  | .imul => (match st with
    | .int y :: .int x :: r => some (e.2.2.1, L, .int (x * y) :: r)
    | _ => none)
  | .iand => (match st with
    | .int y :: .int x :: r => some (e.2.2.1, L, .int (x &&& y) :: r)
    | _ => none)
  | .ior => (match st with
    | .int y :: .int x :: r => some (e.2.2.1, L, .int (x ||| y) :: r)
    | _ => none)
  | .ishr => (match st with
    | .int y :: .int x :: r => some (e.2.2.1, L, .int (x >>> (y &&& 31)) :: r)
    | _ => none)
  | .ineg => (match st with
    | .int x :: r => some (e.2.2.1, L, .int (-x) :: r)
    | _ => none)
  | .ladd => (match st with
    | .long y :: .long x :: r => some (e.2.2.1, L, .long (x + y) :: r)
    | _ => none)
  | .lsub => (match st with
    | .long y :: .long x :: r => some (e.2.2.1, L, .long (x - y) :: r)
    | _ => none)
  | .lmul => (match st with
    | .long y :: .long x :: r => some (e.2.2.1, L, .long (x * y) :: r)
    | _ => none)
  | .land => (match st with
    | .long y :: .long x :: r => some (e.2.2.1, L, .long (x &&& y) :: r)
    | _ => none)
  | .lor => (match st with
    | .long y :: .long x :: r => some (e.2.2.1, L, .long (x ||| y) :: r)
    | _ => none)
  | .lneg => (match st with
    | .long x :: r => some (e.2.2.1, L, .long (-x) :: r)
    | _ => none)
  | .lshl => (match st with
    | .int y :: .long x :: r => some (e.2.2.1, L, .long (x <<< (y.toInt64 &&& 63)) :: r)
    | _ => none)
  | .lushr => (match st with
    | .int y :: .long x :: r => some (e.2.2.1, L, .long ((x.toUInt64 >>> (y.toInt64.toUInt64 &&& Int64.toUInt64 63)).toInt64) :: r)
    | _ => none)
  | .lcmp => (match st with
    | .long y :: .long x :: r => some (e.2.2.1, L, .int (lg_cmp x y) :: r)
    | _ => none)
  | .i2l => (match st with
    | .int x :: r => some (e.2.2.1, L, .long x.toInt64 :: r)
    | _ => none)
  | .l2i => (match st with
    | .long x :: r => some (e.2.2.1, L, .int x.toInt32 :: r)
    | _ => none)
  | .i2b => (match st with
    | .int x :: r => some (e.2.2.1, L, .int x.toInt8.toInt32 :: r)
    | _ => none)
  | .dup => (match st with
    | v :: r => (match zc1 v with
      | true => some (e.2.2.1, L, v :: v :: r)
      | false => none)
    | _ => none)
  | .pop => (match st with
    | v :: r => (match zc1 v with
      | true => some (e.2.2.1, L, r)
      | false => none)
    | _ => none)
  | .dup_x1 => (match st with
    | v :: w :: r => (match zc1 v, zc1 w with
      | true, true => some (e.2.2.1, L, v :: w :: v :: r)
      | _, _ => none)
    | _ => none)
  | _ => none
def zgo (ft : List (Nat × List zEn)) : Nat → Nat → zLo → List Value → Nat × zLo × List Value
  | 0, pc, L, st => (pc, L, st)
  | n + 1, pc, L, st => match zlk ft pc with
    | some e => (match zstp e L st with
      | some (p, L', s') => zgo ft n p L' s'
      | none => (pc, L, st))
    | none => (pc, L, st)
/-- the two roads of a comparison: target's, next's -/
def zbr (e : zEn) (st : List Value) : Option (Prop × Prop × List Value) :=
  match e.2.1 with
  | .ifCond c _ => (match st with
    | .int x :: r => (match c with
      | .eq => some (x = 0, ¬ x = 0, r)
      | .ne => some (¬ x = 0, x = 0, r)
      | .lt => some (x < 0, ¬ x < 0, r)
      | .ge => some (0 ≤ x, ¬ 0 ≤ x, r)
      | .gt => some (0 < x, ¬ 0 < x, r)
      | .le => some (x ≤ 0, ¬ x ≤ 0, r))
    | _ => none)
  | .if_icmp c _ => (match st with
    | .int y :: .int x :: r => (match c with
      | .eq => some (x = y, ¬ x = y, r)
      | .ne => some (¬ x = y, x = y, r)
      | .lt => some (x < y, ¬ x < y, r)
      | .ge => some (y ≤ x, ¬ y ≤ x, r)
      | .gt => some (y < x, ¬ y < x, r)
      | .le => some (x ≤ y, ¬ x ≤ y, r))
    | _ => none)
  | .if_acmp c _ => (match st with
    | .ref y :: .ref x :: r => (match c with
      | .eq => some (x = y, ¬ x = y, r)
      | .ne => some (¬ x = y, x = y, r))
    | _ => none)
  | _ => none
/-! what a method owes -/
def zO (X : zCx) (t : State) (r : zRs) (o : Outcome) : Prop := match r with
  | .inl v => o = .returned v
  | .inr E => ∃ (q : Nat) (ce : Cell), o = .threw q ∧ t.heap[q]? = some ce ∧ ce.vm = .none ∧ (zs X).vm.findClass E = some ce.cls
def zEnd (X : zCx) (n0 k0 : Nat) (st : State) (o : Outcome) (t : State) (Q : zRs → zHp → Prop) : Prop :=
  ∃ (r : zRs) (h' : zHp), zO X t r o ∧ Q r h' ∧ zR X h' t.heap ∧ n0 ≤ h'.2.1 ∧ k0 ≤ h'.2.2 ∧ st.WarmedH t.vm ∧ ∃ L : List Loc, st.sameButNew ({ t with vm := st.vm } : State) L (h'.2.1 - n0) (h'.2.2 - k0) ∧ ∀ q ∈ L, zB X ≤ q.base
def zF (X : zCx) (n0 k0 : Nat) (below : List Frame) (s : State) (Q : zRs → zHp → Prop) : State → Prop := fun t => ∃ o, t.status = .running ∧ Ended t below o ∧ zEnd X n0 k0 s o t Q
abbrev zFr : Type := Nat × Nat × Nat × Nat
def zRm (X : zCx) (f : zFr) : Room := { frames := f.1, cells := zB X + 601024 - f.2.2.1, slots := 7293000 - f.2.2.2, locals := f.2.1 }
def zE (X : zCx) (M : zMI) (n0 : Nat) (p : Program) (s : State) (m : MethodId) (meth : Method) (c : Code) : Prop :=
  zG X ∧ zMOK M ∧ p.tables.exec = Jvm.exec ∧ c.code = zCd M ∧ meth.sig.returnType = zRt M ∧ meth.locks = false ∧ c.maxLocals = zNL M ∧ s.vm.findClass (zNm M).cls = some m.cls ∧ (zs X).WarmedH s.vm ∧ s.heap.size = n0 ∧ meth.name = (zNm M).name ∧ c.exceptionTable.toList.map (fun h => (h.startPc, h.endPc, h.handlerPc, h.catchType)) = zHh M
/-- from here on the method comes to its end, with Q -/
def Z (X : zCx) (M : zMI) (f : zFr) (h : zHp) (pc : Nat) (L : zLo) (st : List Value) (Q : zRs → zHp → Prop) : Prop :=
  ∀ (p : Program) (e : Env) (s : State) (m : MethodId) (args : Array Value) (below : List Frame) (meth : Method) (c : Code) (H : Heap) (locs : List Loc) (ls : Array Slot),
    zE X M f.2.2.1 p s m meth c → zR X h H → f.2.2.1 ≤ h.2.1 → f.2.2.2 ≤ h.2.2 → (∀ q ∈ locs, zB X ≤ q.base) → zLs ls (zNL M) L →
    W p (zl X) e (zRm X f) s m args below meth c H locs (h.2.1 - f.2.2.1) (h.2.2 - f.2.2.2) (zF X f.2.2.1 f.2.2.2 below s Q) (F0 m pc ls st)
