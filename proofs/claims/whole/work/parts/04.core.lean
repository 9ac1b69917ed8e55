/-! THE PURE LAYER: a heap is a map from addresses to cells, a frame's locals and operands are lists; every row here is the kit's row, said over them. -/
abbrev zHp : Type := (Nat → Option va_E) × Nat × Nat
abbrev zRs : Type := Option Value ⊕ String
abbrev zCx : Type := Launch × State × Array Value × va_G × (Nat → ClassId)
abbrev zEn : Type := Nat × Instr × Nat × Int32 × Nat
abbrev zMI : Type := MethodName × ByteArray × Nat × Option FieldType × List (Nat × List zEn) × List (Nat × Nat × Nat × Nat)
abbrev zLo : Type := List (Option Value)
abbrev zl (X : zCx) : Launch := X.1
abbrev zs (X : zCx) : State := X.2.1
abbrev za (X : zCx) : Array Value := X.2.2.1
abbrev zD (X : zCx) : va_G := X.2.2.2.1
abbrev zA (X : zCx) : Nat → ClassId := X.2.2.2.2
abbrev zB (X : zCx) : Nat := X.2.1.heap.size
abbrev zNm (M : zMI) : MethodName := M.1
abbrev zCd (M : zMI) : ByteArray := M.2.1
abbrev zNL (M : zMI) : Nat := M.2.2.1
abbrev zRt (M : zMI) : Option FieldType := M.2.2.2.1
abbrev zFt (M : zMI) : List (Nat × List zEn) := M.2.2.2.2.1
abbrev zHh (M : zMI) : List (Nat × Nat × Nat × Nat) := M.2.2.2.2.2
def zTy : Nat → FieldType := fun k => match k with
  | 0 => .int
  | 1 => .long
  | 2 => .byte
  | 3 => .boolean
  | 4 => .object "java/lang/Object"
  | _ => .object "ShadowWard$Block"
def zTys (X : zCx) : List (ClassId × FieldType) := (List.range 6).map (fun k => (zA X k, zTy k))
/-- what holds of the start: the tables' words, the classes' numbers, no stack traces, what the Statement gives -/
def zG (X : zCx) : Prop := (∀ w ∈ lw_tbl, w.before (za X) (zs X) = true) ∧ va_K (zD X) vwCl (zTys X) (zs X) ∧ (zl X).stackTraces = false ∧ (Jvm.Cond.and given_1 narrow_1).before (za X) (zs X) = true
theorem zw {X : zCx} (G : zG X) {s : State} {args : Array Value} (hW : (zs X).WarmedH s.vm) {w : Jvm.Cond} (hm : w ∈ lw_tbl) (hg : goodWord w = true) : w.before args s = true := word_at hW (good_of_word hg) (G.1 w hm)
theorem zKs {X : zCx} (G : zG X) {s : State} (hW : (zs X).WarmedH s.vm) : va_K (zD X) vwCl (zTys X) s := va_K.moved hW.alike G.2.1
theorem zTys_at (X : zCx) {k : Nat} (hk : k < 6) : (zTys X)[k]? = some (zA X k, zTy k) := by
  unfold zTys
  rw [List.getElem?_map, List.getElem?_range hk]
  rfl
/-! heaps -/
def zset (h : zHp) (a : Nat) (e : va_E) : zHp := (fun b => if b = a then some e else h.1 b, h.2.1, h.2.2)
def znew (h : zHp) (e : va_E) (k : Nat) : zHp := (fun b => if b = h.2.1 then some e else h.1 b, h.2.1 + 1, h.2.2 + k)
def zadd (h : zHp) (c k : Nat) : zHp := (h.1, h.2.1 + c, h.2.2 + k)
def zLim (X : zCx) (h : zHp) : Prop := h.2.1 ≤ zB X + 601024 ∧ h.2.2 ≤ 7293000
def zR (X : zCx) (h : zHp) (H : Heap) : Prop := H.size = h.2.1 ∧ zB X ≤ H.size ∧ (∀ q : Nat, q < zB X → H[q]? = (zs X).heap[q]?) ∧ (∀ (a : Nat) (e : va_E), h.1 a = some e → zB X ≤ a ∧ va_at (zD X) vwCl (a, e) H) ∧ zLim X h
theorem zR.at {X : zCx} {h : zHp} {H : Heap} (r : zR X h H) {a : Nat} {e : va_E} (ha : h.1 a = some e) : va_P (zD X) vwCl [(a, e)] H := by
  intro k q hq
  match k, hq with
  | 0, hq => cases hq; exact (r.2.2.2.1 a e ha).2
  | k + 1, hq => simp at hq
theorem zR.put {X : zCx} {h : zHp} {H H1 : Heap} (r : zR X h H) {a : Nat} {e : va_E} (hb : zB X ≤ a) (h1 : va_at (zD X) vwCl (a, e) H1) (z : H1.size = H.size) (o : ∀ q : Nat, q ≠ a → H1[q]? = H[q]?) : zR X (zset h a e) H1 := by
  refine ⟨z.trans r.1, by rw [z]; exact r.2.1, fun q hq => ?_, fun b e' hb' => ?_, r.2.2.2.2⟩
  · rw [o q (by omega)]
    exact r.2.2.1 q hq
  · have hb2 : (if b = a then some e else h.1 b) = some e' := hb'
    by_cases c : b = a
    · subst c
      rw [if_pos rfl] at hb2
      cases hb2
      exact ⟨hb, h1⟩
    · rw [if_neg c] at hb2
      obtain ⟨g1, g2⟩ := r.2.2.2.1 b e' hb2
      exact ⟨g1, va_at.kept g2 (o b c)⟩
theorem zR.new {X : zCx} {h : zHp} {H H1 : Heap} (r : zR X h H) {e : va_E} (k : Nat) (h1 : va_at (zD X) vwCl (h.2.1, e) H1) (z : H1.size = H.size + 1) (o : ∀ q : Nat, q < H.size → H1[q]? = H[q]?) (hl : zLim X (znew h e k)) : zR X (znew h e k) H1 := by
  have r1 := r.1
  have r2 := r.2.1
  refine ⟨by show H1.size = h.2.1 + 1; omega, by omega, fun q hq => ?_, fun b e' hb' => ?_, hl⟩
  · rw [o q (by omega)]
    exact r.2.2.1 q hq
  · have hb2 : (if b = h.2.1 then some e else h.1 b) = some e' := hb'
    by_cases c : b = h.2.1
    · subst c
      rw [if_pos rfl] at hb2
      cases hb2
      exact ⟨by omega, h1⟩
    · rw [if_neg c] at hb2
      obtain ⟨g1, g2⟩ := r.2.2.2.1 b e' hb2
      exact ⟨g1, va_at.kept g2 (o b (by have := g2.lt; exact this))⟩
theorem zR.more {X : zCx} {h : zHp} {H H1 : Heap} (r : zR X h H) (c k : Nat) (z : H1.size = H.size + c) (o : ∀ q : Nat, q < H.size → H1[q]? = H[q]?) (hl : zLim X (zadd h c k)) : zR X (zadd h c k) H1 := by
  have r1 := r.1
  have r2 := r.2.1
  refine ⟨by show H1.size = h.2.1 + c; omega, by omega, fun q hq => ?_, fun b e' hb' => ?_, hl⟩
  · rw [o q (by omega)]
    exact r.2.2.1 q hq
  · obtain ⟨g1, g2⟩ := r.2.2.2.1 b e' hb'
    exact ⟨g1, va_at.kept g2 (o b g2.lt)⟩
/-! locals -/
def zget : zLo → Nat → Option Value
  | [], _ => none
  | x :: _, 0 => x
  | _ :: r, i + 1 => zget r i
def zput : zLo → Nat → Option Value → zLo
  | [], _, _ => []
  | _ :: r, 0, v => v :: r
  | x :: r, i + 1, v => x :: zput r i v
def zin : zLo → Nat → Bool
  | [], _ => false
  | _ :: _, 0 => true
  | _ :: r, i + 1 => zin r i
def zlg : Option Value → Bool
  | some (.long _) => true
  | some (.double _) => true
  | _ => false
def zkill : zLo → Nat → zLo
  | [], _ => []
  | x :: r, 0 => x :: r
  | x :: r, 1 => (match zlg x with
    | true => none :: r
    | false => x :: r)
  | x :: r, j + 2 => x :: zkill r (j + 1)
def zst1 (L : zLo) (i : Nat) (v : Value) : zLo := zput (zkill L i) i (some v)
def zst2 (L : zLo) (i : Nat) (v : Value) : zLo := zput (zput (zkill L i) i (some v)) (i + 1) none
def zfc {α : Type} : zLo → (zLo → α) → α
  | [], k => k []
  | x :: r, k => zfc r (fun r' => k (x :: r'))
theorem zfc_eq {α : Type} (L : zLo) (k : zLo → α) : zfc L k = k L := by
  induction L generalizing k with
  | nil => rfl
  | cons x r ih => exact ih _
theorem zget_put (L : zLo) (i j : Nat) (v : Option Value) : zget (zput L i v) j = if j = i ∧ zin L i = true then v else zget L j := by
  induction L generalizing i j with
  | nil => simp [zput, zget, zin]
  | cons x r ih =>
    cases i with
    | zero => cases j <;> simp [zput, zget, zin]
    | succ i =>
      cases j with
      | zero => simp [zput, zget]
      | succ j => simp [zput, zget, zin, ih]
theorem zin_put (L : zLo) (i j : Nat) (v : Option Value) : zin (zput L i v) j = zin L j := by
  induction L generalizing i j with
  | nil => rfl
  | cons x r ih =>
    cases i with
    | zero => cases j <;> rfl
    | succ i => cases j with
      | zero => rfl
      | succ j => exact ih i j
theorem zin_len {L : zLo} {i : Nat} : zin L i = true ↔ i < L.length := by
  induction L generalizing i with
  | nil => simp [zin]
  | cons x r ih => cases i with
    | zero => simp [zin]
    | succ i => simp [zin, ih]
theorem zput_len (L : zLo) (i : Nat) (v : Option Value) : (zput L i v).length = L.length := by
  induction L generalizing i with
  | nil => rfl
  | cons x r ih => cases i with
    | zero => rfl
    | succ i => simp [zput, ih]
theorem zkill_len (L : zLo) (i : Nat) : (zkill L i).length = L.length := by
  induction L generalizing i with
  | nil => rfl
  | cons x r ih =>
    match i with
    | 0 => rfl
    | 1 => cases h : zlg x <;> simp [zkill, h]
    | j + 2 => simp [zkill, ih]
theorem zlg_cat {v : Value} (h : zlg (some v) = false) : v.category = 1 := by cases v <;> simp_all [zlg, Value.category]
theorem zkill_get {L : zLo} {i j : Nat} {v : Value} (h : zget (zkill L i) j = some v) : zget L j = some v ∧ (j + 1 = i → v.category = 1) := by
  induction L generalizing i j with
  | nil => simp [zkill, zget] at h
  | cons x r ih =>
    match i with
    | 0 => exact ⟨h, fun q => by omega⟩
    | 1 =>
      cases hx : zlg x with
      | true =>
        simp only [zkill, hx] at h
        cases j with
        | zero => simp [zget] at h
        | succ j => exact ⟨h, fun q => by omega⟩
      | false =>
        simp only [zkill, hx] at h
        refine ⟨h, fun q => ?_⟩
        have : j = 0 := by omega
        subst this
        have hv : x = some v := h
        rw [hv] at hx
        exact zlg_cat hx
    | k + 2 =>
      cases j with
      | zero => exact ⟨h, fun q => by omega⟩
      | succ j =>
        obtain ⟨g1, g2⟩ := ih (i := k + 1) (j := j) h
        exact ⟨g1, fun q => g2 (by omega)⟩
/-- the machine's locals hold what the list says -/
def zLs (ls : Array Slot) (nL : Nat) (L : zLo) : Prop := L.length = nL ∧ ∃ l, lv_has ls nL l ∧ ∀ i v, zget L i = some v → (i, v) ∈ l
theorem zLs.at {ls : Array Slot} {nL : Nat} {L : zLo} (h : zLs ls nL L) {i : Nat} {v : Value} (hi : zget L i = some v) : ls[i]? = some (.val v) := by
  obtain ⟨-, l, h1, h2⟩ := h
  exact h1.2.2 (i, v) (h2 i v hi)
theorem zLs.st1 {ls : Array Slot} {nL : Nat} {L : zLo} (h : zLs ls nL L) {i : Nat} {v : Value} (hc : v.category = 1) (hi : zin L i = true) : ∃ l, lv_has ls nL l ∧ i < nL ∧ ∀ ls', lv_has ls' nL ((i, v) :: l.filter (fun q => !(q.1 == i) && !(q.1 + 1 == i && q.2.category == 2))) → zLs ls' nL (zst1 L i v) := by
  obtain ⟨h0, l, h1, h2⟩ := h
  have hi' := zin_len.mp hi
  refine ⟨l, h1, by omega, fun ls' h' => ⟨by unfold zst1; rw [zput_len, zkill_len]; exact h0, _, h', fun j w hj => ?_⟩⟩
  unfold zst1 at hj
  rw [zget_put] at hj
  split at hj
  · rename_i e
    cases hj
    rw [e.1]
    exact List.mem_cons_self
  · rename_i e
    obtain ⟨g1, g2⟩ := zkill_get hj
    have hne : j ≠ i := fun q => e ⟨q, by rw [zin_len, zkill_len]; omega⟩
    refine List.mem_cons_of_mem _ (List.mem_filter.mpr ⟨h2 j w g1, ?_⟩)
    by_cases q : j + 1 = i
    · have := g2 q
      simp [hne, this]
    · simp [hne, q]
theorem zLs.st2 {ls : Array Slot} {nL : Nat} {L : zLo} (h : zLs ls nL L) {i : Nat} {v : Value} (hc : v.category = 2) (hi : zin L (i + 1) = true) : ∃ l, lv_has ls nL l ∧ i + 1 < nL ∧ ∀ ls', lv_has ls' nL ((i, v) :: l.filter (fun q => !(q.1 == i) && (!(q.1 == i + 1) && !(q.1 + 1 == i && q.2.category == 2)))) → zLs ls' nL (zst2 L i v) := by
  obtain ⟨h0, l, h1, h2⟩ := h
  have hi' := zin_len.mp hi
  refine ⟨l, h1, by omega, fun ls' h' => ⟨by unfold zst2; rw [zput_len, zput_len, zkill_len]; exact h0, _, h', fun j w hj => ?_⟩⟩
  unfold zst2 at hj
  rw [zget_put] at hj
  split at hj
  · cases hj
  · rename_i e0
    have hj1 : j ≠ i + 1 := fun q => e0 ⟨q, by rw [zin_len, zput_len, zkill_len]; omega⟩
    rw [zget_put] at hj
    split at hj
    · rename_i e
      cases hj
      rw [e.1]
      exact List.mem_cons_self
    · rename_i e
      obtain ⟨g1, g2⟩ := zkill_get hj
      have hne : j ≠ i := fun q => e ⟨q, by rw [zin_len, zkill_len]; omega⟩
      refine List.mem_cons_of_mem _ (List.mem_filter.mpr ⟨h2 j w g1, ?_⟩)
      by_cases q : j + 1 = i
      · have := g2 q
        simp [hne, hj1, this]
      · simp [hne, hj1, q]
