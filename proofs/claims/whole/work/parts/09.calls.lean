/-! methods by contract: ZM; ends; calls -/
def zcode (M : zMI) : Jvm.Cond := match zHh M with
  | [] => .code (zNm M) (zCd M) (zNL M) (zRt M)
  | q :: r => .codeWith (zNm M) (zCd M) (zNL M) (zRt M) (q :: r)
def zMK (M : zMI) : Prop := zMOK M ∧ plainFor (zNm M) = true ∧ zcode M ∈ lw_tbl ∧ Jvm.Cond.initialized (zNm M).cls ∈ lw_tbl ∧ (zNm M).cls ≠ "java/lang/invoke/MethodHandle" ∧ (zNm M).cls ≠ "java/lang/invoke/VarHandle"
theorem zcode_good (M : zMI) : goodWord (zcode M) = true := by unfold zcode; split <;> rfl
theorem zcode_spec {M : zMI} {args : Array Value} {s : State} (h : (zcode M).before args s = true) : ∃ m meth c, s.methodNamed? (zNm M) = some m ∧ s.vm.method? m = some meth ∧ meth.code = some c ∧ c.code = zCd M ∧ c.maxLocals = zNL M ∧ c.exceptionTable.toList.map (fun h => (h.startPc, h.endPc, h.handlerPc, h.catchType)) = zHh M ∧ meth.sig.returnType = zRt M ∧ meth.locks = false ∧ parseMethodDescriptor (zNm M).desc = some meth.sig := by
  unfold zcode at h
  split at h
  · rename_i e
    obtain ⟨mk, hn⟩ := Cond.code_named h
    obtain ⟨meth, c, h1, h2, h3, h4, h5, h6, h7, h8⟩ := Cond.code_spec hn h
    refine ⟨mk, meth, c, hn, h1, h2, h3, h4, ?_, h5, h6, h8⟩
    rw [e]
    have h0 : c.exceptionTable.size = 0 := by simpa [Array.isEmpty] using h7
    have h9 : c.exceptionTable.toList = [] := List.eq_nil_of_length_eq_zero (by simpa using h0)
    rw [h9]
    rfl
  · rename_i q r e
    obtain ⟨mk, meth, c, hn, h1, h2, h3, h4, h5, h6, h7, h8⟩ := Cond.codeWith_spec h
    exact ⟨mk, meth, c, hn, h1, h2, h3, h4, by rw [e]; exact h5, h6, h7, h8⟩
def zTb : List Jvm.Cond := lw_tbl.filter goodWord
theorem zTb_in {w : Jvm.Cond} (h : w ∈ lw_tbl) (g : goodWord w = true) : w ∈ zTb := List.mem_filter.mpr ⟨h, g⟩
/-- the method, called with av over the heap h, comes to its end with Q -/
def ZM (X : zCx) (M : zMI) (fr lo : Nat) (av : List Value) (h : zHp) (Q : zRs → zHp → Prop) : Prop :=
  MetFree (zl X) (zNm M) (headSpec zTb (zRm X (fr, lo, h.2.1, h.2.2))) (fun a U => a = av.toArray ∧ (zs X).WarmedH U.vm ∧ zR X h U.heap) (fun _ _ _ _ _ => True) (fun _ st o t => zEnd X h.2.1 h.2.2 st o t Q)
def zarg : List Value → zLo
  | [] => []
  | .long x :: r => some (.long x) :: none :: zarg r
  | .double x :: r => some (.double x) :: none :: zarg r
  | v :: r => some v :: zarg r
def zpad : Nat → zLo
  | 0 => []
  | n + 1 => none :: zpad n
def zent (n : Nat) (av : List Value) : zLo := zarg av ++ zpad (n - (zarg av).length)
theorem zpad_len (n : Nat) : (zpad n).length = n := by induction n with
  | zero => rfl
  | succ n ih => simp [zpad, ih]
theorem zpad_get (n i : Nat) : zget (zpad n) i = none := by
  induction n generalizing i with
  | zero => rfl
  | succ n ih => cases i with
    | zero => rfl
    | succ i => exact ih i
theorem zarg_len (av : List Value) : (zarg av).length = (lg_sl av).length := by
  induction av with
  | nil => rfl
  | cons v r ih => cases v <;> simp_all [zarg, lg_sl, Value.category]
theorem zget_app (a b : zLo) (i : Nat) : zget (a ++ b) i = if i < a.length then zget a i else zget b (i - a.length) := by
  induction a generalizing i with
  | nil => simp
  | cons x r ih => cases i with
    | zero => simp [zget]
    | succ i => simp only [List.cons_append, zget, ih, List.length_cons, Nat.add_lt_add_iff_right, Nat.add_sub_add_right]
theorem zarg_in (av : List Value) (o i : Nat) (v : Value) (h : zget (zarg av) i = some v) : (o + i, v) ∈ lv_args o av := by
  induction av generalizing o i with
  | nil => simp [zarg, zget] at h
  | cons w r ih =>
    have two : ∀ (w : Value), w.category = 2 → zarg (w :: r) = some w :: none :: zarg r → zget (zarg (w :: r)) i = some v → (o + i, v) ∈ lv_args o (w :: r) := by
      intro w hw e h
      rw [e] at h
      unfold lv_args
      rw [if_pos hw]
      match i, h with
      | 0, h => cases h; exact List.mem_cons_self
      | 1, h => simp [zget] at h
      | i + 2, h =>
        have := ih (o + 2) i h
        rw [show o + 2 + i = o + (i + 2) by omega] at this
        exact List.mem_cons_of_mem _ this
    have one : ∀ (w : Value), ¬ w.category = 2 → zarg (w :: r) = some w :: zarg r → zget (zarg (w :: r)) i = some v → (o + i, v) ∈ lv_args o (w :: r) := by
      intro w hw e h
      rw [e] at h
      unfold lv_args
      rw [if_neg hw]
      match i, h with
      | 0, h => cases h; exact List.mem_cons_self
      | i + 1, h =>
        have := ih (o + 1) i h
        rw [show o + 1 + i = o + (i + 1) by omega] at this
        exact List.mem_cons_of_mem _ this
    cases w with
    | long x => exact two _ rfl rfl h
    | double x => exact two _ rfl rfl h
    | int x => exact one _ (by simp [Value.category]) rfl h
    | float x => exact one _ (by simp [Value.category]) rfl h
    | null => exact one _ (by simp [Value.category]) rfl h
    | ref x => exact one _ (by simp [Value.category]) rfl h
    | retAddr x => exact one _ (by simp [Value.category]) rfl h
theorem zent_ls (n : Nat) (av : List Value) (h : (zarg av).length ≤ n) : zLs ((lg_sl av ++ List.replicate (n - (lg_sl av).length) Slot.unset).toArray) n (zent n av) := by
  refine ⟨?_, lv_args 0 av, lv_entry av (by rw [← zarg_len]; exact h), fun i v hi => ?_⟩
  · unfold zent
    rw [List.length_append, zpad_len]
    omega
  · unfold zent at hi
    rw [zget_app] at hi
    split at hi
    · have := zarg_in av 0 i v hi
      rwa [Nat.zero_add] at this
    · rw [zpad_get] at hi
      cases hi
theorem z_rfv (r : Option Nat) : va_rf r = .null ∨ ∃ a, va_rf r = .ref a := by
  cases r with
  | none => exact Or.inl rfl
  | some a => exact Or.inr ⟨a, rfl⟩
section ZC
variable {X : zCx} {M : zMI} {f : zFr} {h : zHp} {pc : Nat} {L : zLo} {st : List Value} {Q : zRs → zHp → Prop}
theorem zm_of_z {fr lo : Nat} {av : List Value} {L0 : zLo} (G : zG X) (hK : zMK M) (hl : Nat.ble (zarg av).length (zNL M) = true) (hL : zfc (zent (zNL M) av) (fun L => L) = L0) (k : Z X M (fr, lo, h.2.1, h.2.2) h 0 L0 [] Q) : ZM X M fr lo av h Q := by
  obtain ⟨hM, hpl, hcd, hin, -, -⟩ := hK
  rw [zfc_eq] at hL
  subst hL
  have hcz : zcode M ∈ zTb := zTb_in hcd (zcode_good M)
  refine MetFree.of_bodySF (code := zCd M) (maxLocals := zNL M) (ret := zRt M) hpl ?_ ?_
  · intro args s m hp hn
    obtain ⟨m9, meth, c, g0, g1, g2, g3, g4, g5, g6, g7, g8⟩ := zcode_spec (atoms_spec (ws := zTb) hp _ hcz)
    cases hn.symm.trans g0
    exact ⟨meth, c, g1, g2, g3, g4, g6, g7⟩
  · intro p e s m args below meth c s₁ B hml hP _
    obtain ⟨rfl, hW, hR⟩ := hP
    obtain ⟨m9, meth9, c9, g0, g1, g2, g3, g4, g5, g6, g7, g8⟩ := zcode_spec (atoms_spec (ws := zTb) B.pre _ hcz)
    have e1 : m9 = m := Option.some.inj (g0.symm.trans B.named)
    subst e1
    have e2 : meth9 = meth := Option.some.inj (g1.symm.trans B.method)
    subst e2
    have e3 : c9 = c := Option.some.inj (g2.symm.trans (Stand.of_body B).code)
    subst e3
    have hh0 : s₁.heap = s.heap := by rw [B.state]; rfl
    have K := k p e s _ av.toArray below _ _ s.heap [] _ ⟨G, hM, B.exec, B.bytes, B.returns, B.notSynchronized, hml, findClass_of_methodNamed B.named, hW, hR.1, (name_of_methodNamed B.named B.method).1, g5⟩ hR (Nat.le_refl _) (Nat.le_refl _) (fun q hq => by cases hq) (zent_ls (zNL M) av (Nat.le_of_ble_eq_true hl))
    rw [Nat.sub_self, Nat.sub_self, ← lg_entry_eq] at K
    obtain ⟨t, a1, o, b1, b2, b3⟩ := K s₁ hh0 (Stand.of_body B)
    exact ⟨t, o, a1, b1, b2, b3⟩
theorem Wmono {p : Program} {l : Launch} {e : Env} {R : Room} {s : State} {m : MethodId} {args : Array Value} {below : List Frame} {meth : Method} {c : Code} {H : Heap} {locs : List Loc} {cells slots : Nat} {Q1 Q2 : State → Prop} {g : JFrame} (hq : ∀ t, Q1 t → Q2 t) (k : W p l e R s m args below meth c H locs cells slots Q1 g) : W p l e R s m args below meth c H locs cells slots Q2 g := fun T hT X => by
  obtain ⟨t, a, b⟩ := k T hT X
  exact ⟨t, a, hq t b⟩
theorem z_fin {s : State} {args : Array Value} {below : List Frame} {H : Heap} {v : Option Value} (hR : zR X h H) (hn : f.2.2.1 ≤ h.2.1) (hk : f.2.2.2 ≤ h.2.2) (hq : Q (.inl v) h) (t : State) (k : MQ below (fun _ _ o t => o = .returned v ∧ t.heap = H) args s (h.2.1 - f.2.2.1) (h.2.2 - f.2.2.2) (fun q => zB X ≤ q) t) : zF X f.2.2.1 f.2.2.2 below s Q t := by
  obtain ⟨o, b1, b2, ⟨rfl, b3⟩, L, ⟨-, b5, b6⟩, b7⟩ := k
  exact ⟨_, b1, b2, .inl v, h, rfl, hq, by rw [b3]; exact hR, hn, hk, b5, L, b6, b7⟩
theorem z_iret {v : Int32} {p0 nx t : Nat} {lv : Int32} (hf : zlk (zFt M) pc = some (p0, .ireturn, nx, lv, t)) (hrt : zRt M = some .int) (hq : Q (.inl (some (.int v))) h) : Z X M f h pc L [.int v] Q := by
  intro p ev s m args below meth c H locs ls E hR hn hk hlo hl
  obtain ⟨hG, hM, hx, hb, hr, hlk, -⟩ := id E
  obtain ⟨d, rfl, -⟩ := zdn hM hf (n := 0) rfl
  exact Wmono (z_fin hR hn hk hq) (W.iret (v := v) hx hb (hr.trans hrt) (fun t ht _ => ⟨rfl, ht⟩) hlo d hlk)
theorem z_zret {v : Int32} {p0 nx t : Nat} {lv : Int32} (hf : zlk (zFt M) pc = some (p0, .ireturn, nx, lv, t)) (hrt : zRt M = some .boolean) (hv : narrow .boolean (.int v) = .int v) (hq : Q (.inl (some (.int v))) h) : Z X M f h pc L [.int v] Q := by
  intro p ev s m args below meth c H locs ls E hR hn hk hlo hl
  obtain ⟨hG, hM, hx, hb, hr, hlk, -⟩ := id E
  obtain ⟨d, rfl, -⟩ := zdn hM hf (n := 0) rfl
  exact Wmono (z_fin hR hn hk hq) (W.zret (v := v) hx hb (hr.trans hrt) hv (fun t ht _ => ⟨rfl, ht⟩) hlo d hlk)
theorem z_lret {v : Int64} {p0 nx t : Nat} {lv : Int32} (hf : zlk (zFt M) pc = some (p0, .lreturn, nx, lv, t)) (hrt : zRt M = some .long) (hq : Q (.inl (some (.long v))) h) : Z X M f h pc L [.long v] Q := by
  intro p ev s m args below meth c H locs ls E hR hn hk hlo hl
  obtain ⟨hG, hM, hx, hb, hr, hlk, -⟩ := id E
  obtain ⟨d, rfl, -⟩ := zdn hM hf (n := 0) rfl
  exact Wmono (z_fin hR hn hk hq) (W.lret (v := v) hx hb (hr.trans hrt) (fun t ht _ => ⟨rfl, ht⟩) hlo d hlk)
theorem z_vret {p0 nx t : Nat} {lv : Int32} (hf : zlk (zFt M) pc = some (p0, .return_, nx, lv, t)) (hrt : zRt M = none) (hq : Q (.inl none) h) : Z X M f h pc L [] Q := by
  intro p ev s m args below meth c H locs ls E hR hn hk hlo hl
  obtain ⟨hG, hM, hx, hb, hr, hlk, -⟩ := id E
  obtain ⟨d, rfl, -⟩ := zdn hM hf (n := 0) rfl
  exact Wmono (z_fin hR hn hk hq) (W.vret hx hb (hr.trans hrt) (fun t ht _ => ⟨rfl, ht⟩) hlo d hlk)
theorem z_aret {r : Option Nat} {p0 nx t : Nat} {lv : Int32} {rt : FieldType} (hf : zlk (zFt M) pc = some (p0, .areturn, nx, lv, t)) (hrt : zRt M = some rt) (hro : (∃ n, rt = .object n) ∨ ∃ t, rt = .array t) (hq : Q (.inl (some (va_rf r))) h) : Z X M f h pc L [va_rf r] Q := by
  intro p ev s m args below meth c H locs ls E hR hn hk hlo hl
  obtain ⟨hG, hM, hx, hb, hr, hlk, -⟩ := id E
  obtain ⟨d, rfl, -⟩ := zdn hM hf (n := 0) rfl
  exact Wmono (z_fin hR hn hk hq) (W.aret (v := va_rf r) hx hb (hr.trans hrt) hro (z_rfv r) (fun t ht _ => ⟨rfl, ht⟩) hlo d hlk)
/-- from here on, with an exception of class E thrown at pc -/
def ZT (X : zCx) (M : zMI) (f : zFr) (h : zHp) (pc : Nat) (L : zLo) (E : String) (Q : zRs → zHp → Prop) : Prop :=
  ∀ (p : Program) (e : Env) (s : State) (m : MethodId) (args : Array Value) (below : List Frame) (meth : Method) (c : Code) (H : Heap) (locs : List Loc) (ls : Array Slot) (st : List Value) (q : Nat) (ce : Cell),
    zE X M f.2.2.1 p s m meth c → zR X h H → f.2.2.1 ≤ h.2.1 → f.2.2.2 ≤ h.2.2 → (∀ q ∈ locs, zB X ≤ q.base) → zLs ls (zNL M) L → H[q]? = some ce → ce.vm = .none → (zs X).vm.findClass E = some ce.cls →
    vx_W p (zl X) e (zRm X f) s m args below meth c H locs (h.2.1 - f.2.2.1) (h.2.2 - f.2.2.2) (zF X f.2.2.1 f.2.2.2 below s Q) (F0 m pc ls st) q
theorem zt_out {E : String} (hh : zHh M = []) (hq : Q (.inr E) h) : ZT X M f h pc L E Q := by
  intro p ev s m args below meth c H locs ls st q ce E9 hR hn hk hlo hl hc hv hcl T hT X9
  obtain ⟨hG, hM, hx, hb, hr, hlk, -, -, -, -, -, htab⟩ := E9
  rw [hh] at htab
  have h0 : c.exceptionTable.toList = [] := List.map_eq_nil_iff.mp htab
  obtain ⟨st1, hrun, hend, hW, hsm⟩ := X9.leaveThrown q (g := F0 m pc ls st) rfl rfl rfl (fun x hx => by rw [h0] at hx; cases hx) hlk
  have hh9 : (T.setFrames (.throwing q :: below)).heap = H := hT
  exact ⟨_, st1, .threw q, hrun, hend, .inr E, h, ⟨q, ce, rfl, by rw [hh9]; exact hc, hv, hcl⟩, hq, by rw [hh9]; exact hR, hn, hk, hW, locs, hsm, hlo⟩
end ZC
