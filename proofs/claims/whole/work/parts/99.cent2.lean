section ZE3
variable {X : zCx} {F : Nat → Option va_E} {o p q : Nat} {S Sx : zS} {D : Nat → Nat → Nat} {W : Nat → Nat → Int32} {K : Nat → Nat → Nat} {h : zHp} {cc b0 fr at' by' m rA cap : Nat} {vA : Nat → Nat} {mc : Int32}
theorem zU_at {α : Type} (A : Nat → α) (r : Nat) (g : α) : zU A r g r = g := by
  unfold zU
  rw [show Nat.beq r r = true from Nat.beq_refl r]
theorem zU_ne {α : Type} {A : Nat → α} {r r' : Nat} {g : α} (c : r' ≠ r) : zU A r g r' = A r' := by
  unfold zU
  rw [nb_ne c]
def zN4 (fr m : Nat) (r i : Nat) : Prop := (r = 11 ∧ i = fr) ∨ (r = 12 ∧ i = fr) ∨ (r = 13 ∧ i = fr) ∨ (r = 14 ∧ 4 * fr ≤ i ∧ i < 4 * fr + m)
def zD4 (D : Nat → Nat → Nat) (fr b0 rA : Nat) (vA : Nat → Nat) : Nat → Nat → Nat := zU (zU (zU (zU D 11 (fun i => if i = fr then b0 else D 11 i)) 12 (fun i => if i = fr then b0 + 1 else D 12 i)) 13 (fun i => if i = fr then rA else D 13 i)) 14 (fun i => if 4 * fr ≤ i then vA (i - 4 * fr) else D 14 i)
def zT4 (T : Nat → Nat → va_E) (fr : Nat) (e11 e12 e13 : va_E) (e14 : Nat → va_E) : Nat → Nat → va_E := zU (zU (zU (zU T 11 (fun i => if i = fr then e11 else T 11 i)) 12 (fun i => if i = fr then e12 else T 12 i)) 13 (fun i => if i = fr then e13 else T 13 i)) 14 (fun i => if 4 * fr ≤ i then e14 (i - 4 * fr) else T 14 i)
theorem z4_old {V : Nat → Nat → Prop} {T : Nat → Nat → va_E} {e11 e12 e13 : va_E} {e14 : Nat → va_E} {D : Nat → Nat → Nat} (h1 : ∀ i, V 11 i → i < fr) (h2 : ∀ i, V 12 i → i < fr) (h3 : ∀ i, V 13 i → i < fr) (h4 : ∀ i, V 14 i → i < 4 * fr) {r i : Nat} (v : V r i) : zD4 D fr b0 rA vA r i = D r i ∧ zT4 T fr e11 e12 e13 e14 r i = T r i ∧ ¬ zN4 fr m r i := by
  unfold zD4 zT4 zN4
  by_cases c1 : r = 11
  · subst c1
    have := h1 i v
    refine ⟨?_, ?_, by omega⟩
    · show (if i = fr then b0 else D 11 i) = _
      rw [if_neg (by omega)]
    · show (if i = fr then e11 else T 11 i) = _
      rw [if_neg (by omega)]
  · by_cases c2 : r = 12
    · subst c2
      have := h2 i v
      refine ⟨?_, ?_, by omega⟩
      · show (if i = fr then b0 + 1 else D 12 i) = _
        rw [if_neg (by omega)]
      · show (if i = fr then e12 else T 12 i) = _
        rw [if_neg (by omega)]
    · by_cases c3 : r = 13
      · subst c3
        have := h3 i v
        refine ⟨?_, ?_, by omega⟩
        · show (if i = fr then rA else D 13 i) = _
          rw [if_neg (by omega)]
        · show (if i = fr then e13 else T 13 i) = _
          rw [if_neg (by omega)]
      · by_cases c4 : r = 14
        · subst c4
          have := h4 i v
          refine ⟨?_, ?_, by omega⟩
          · show (if 4 * fr ≤ i then vA (i - 4 * fr) else D 14 i) = _
            rw [if_neg (by omega)]
          · show (if 4 * fr ≤ i then e14 (i - 4 * fr) else T 14 i) = _
            rw [if_neg (by omega)]
        · refine ⟨?_, ?_, by omega⟩
          · rw [zU_ne c4, zU_ne c3, zU_ne c2, zU_ne c1]
          · rw [zU_ne c4, zU_ne c3, zU_ne c2, zU_ne c1]
theorem zW_4 {V : Nat → Nat → Prop} {T : Nat → Nat → va_E} {D : Nat → Nat → Nat} (w : zW D V T h) (h1 : ∀ i, V 11 i → i < fr) (h2 : ∀ i, V 12 i → i < fr) (h3 : ∀ i, V 13 i → i < fr) (h4 : ∀ i, V 14 i → i < 4 * fr) (B : zFb X Sx b0 fr at' by' m rA cap vA mc h) (hc : cap = 10) {hi : Nat} (hold : ∀ r i, V r i → D r i < b0 ∨ hi ≤ D r i) (h01 : b0 + 1 < hi) (hrA : rA < hi) (hvA : ∀ j, j < m → vA j < hi) :
    zW (zD4 D fr b0 rA vA) (fun r i => V r i ∨ zN4 fr m r i) (zT4 T fr (.inr (2, [.int (nI at'), .int (nI by'), .ref (b0 + 1)])) (zLc mc rA m) (zOb X cap (fun j => if j < m then some (vA j) else none)) (fun j => .inr (10, zRgF 2 (nI (4 * fr + j)) (sN Sx 11 (4 * fr + j)) (sN Sx 12 (4 * fr + j)) 0 0 [.int 1]))) h := by
  obtain ⟨B1, B2, B3, B4, B5, B6⟩ := B
  obtain ⟨z, -⟩ | ⟨-, hr, hr2⟩ := B3
  · omega
  have d11 : zD4 D fr b0 rA vA 11 fr = b0 := if_pos rfl
  have d12 : zD4 D fr b0 rA vA 12 fr = b0 + 1 := if_pos rfl
  have d13 : zD4 D fr b0 rA vA 13 fr = rA := if_pos rfl
  have d14 : ∀ i, 4 * fr ≤ i → zD4 D fr b0 rA vA 14 i = vA (i - 4 * fr) := fun i hi => if_pos hi
  obtain ⟨E, eE⟩ : ∃ E : Nat → Nat → va_E, E = zT4 T fr (.inr (2, [.int (nI at'), .int (nI by'), .ref (b0 + 1)])) (zLc mc rA m) (zOb X cap (fun j => if j < m then some (vA j) else none)) (fun j => .inr (10, zRgF 2 (nI (4 * fr + j)) (sN Sx 11 (4 * fr + j)) (sN Sx 12 (4 * fr + j)) 0 0 [.int 1])) := ⟨_, rfl⟩
  have t11 : E 11 fr = .inr (2, [.int (nI at'), .int (nI by'), .ref (b0 + 1)]) := by rw [eE]; exact if_pos rfl
  have t12 : E 12 fr = zLc mc rA m := by rw [eE]; exact if_pos rfl
  have t13 : E 13 fr = zOb X cap (fun j => if j < m then some (vA j) else none) := by rw [eE]; exact if_pos rfl
  have t14 : ∀ i, 4 * fr ≤ i → E 14 i = .inr (10, zRgF 2 (nI (4 * fr + (i - 4 * fr))) (sN Sx 11 (4 * fr + (i - 4 * fr))) (sN Sx 12 (4 * fr + (i - 4 * fr))) 0 0 [.int 1]) := fun i hi => by rw [eE]; exact if_pos hi
  have hne : ∀ j, j < m → vA j ≠ rA := fun j hj z => by
    have := (B5 j hj).1
    rw [z, hr] at this
    cases this
  have nw : ∀ r i, zN4 fr m r i → h.1 (zD4 D fr b0 rA vA r i) = some (E r i) ∧ b0 ≤ zD4 D fr b0 rA vA r i ∧ zD4 D fr b0 rA vA r i < hi := by
    rintro r i (⟨rfl, rfl⟩ | ⟨rfl, rfl⟩ | ⟨rfl, rfl⟩ | ⟨rfl, i1, i2⟩)
    · rw [d11, t11]
      exact ⟨B1, Nat.le_refl _, by omega⟩
    · rw [d12, t12]
      exact ⟨B2, by omega, by omega⟩
    · rw [d13, t13]
      exact ⟨hr, by omega, hrA⟩
    · rw [d14 i i1, t14 i i1]
      have := B5 (i - 4 * fr) (by omega)
      exact ⟨this.1, by omega, hvA _ (by omega)⟩
  rw [← eE]
  have ol : ∀ r i, V r i → zD4 D fr b0 rA vA r i = D r i ∧ E r i = T r i := fun r i v => by
    rw [eE]
    have q := z4_old (m := m) (b0 := b0) (rA := rA) (vA := vA) (D := D) (T := T) (e11 := .inr (2, [.int (nI at'), .int (nI by'), .ref (b0 + 1)])) (e12 := zLc mc rA m) (e13 := zOb X cap (fun j => if j < m then some (vA j) else none)) (e14 := fun j => .inr (10, zRgF 2 (nI (4 * fr + j)) (sN Sx 11 (4 * fr + j)) (sN Sx 12 (4 * fr + j)) 0 0 [.int 1])) h1 h2 h3 h4 v
    exact ⟨q.1, q.2.1⟩
  refine ⟨fun r i v => ?_, fun r i r' i' v v' z => ?_⟩
  · rcases v with v | v
    · rw [(ol r i v).1, (ol r i v).2]
      exact w.1 r i v
    · exact (nw r i v).1
  · rcases v with v | v
    · rcases v' with v' | v'
      · rw [(ol r i v).1, (ol r' i' v').1] at z
        exact w.2 r i r' i' v v' z
      · rw [(ol r i v).1] at z
        have q := nw r' i' v'
        have q2 := hold r i v
        omega
    · rcases v' with v' | v'
      · rw [(ol r' i' v').1] at z
        have q := nw r i v
        have q2 := hold r' i' v'
        omega
      · rcases v with ⟨rfl, rfl⟩ | ⟨rfl, rfl⟩ | ⟨rfl, rfl⟩ | ⟨rfl, i1, i2⟩ <;> rcases v' with ⟨rfl, rfl⟩ | ⟨rfl, rfl⟩ | ⟨rfl, rfl⟩ | ⟨rfl, j1, j2⟩
        · exact ⟨rfl, rfl⟩
        · rw [d11, d12] at z
          omega
        · rw [d11, d13] at z
          omega
        · rw [d11, d14 _ j1] at z
          have := (B5 _ (show i' - 4 * i < m by omega)).2
          omega
        · rw [d11, d12] at z
          omega
        · exact ⟨rfl, rfl⟩
        · rw [d12, d13] at z
          omega
        · rw [d12, d14 _ j1] at z
          have := (B5 _ (show i' - 4 * i < m by omega)).2
          omega
        · rw [d11, d13] at z
          omega
        · rw [d12, d13] at z
          omega
        · exact ⟨rfl, rfl⟩
        · rw [d13, d14 _ j1] at z
          exact absurd z.symm (hne _ (by omega))
        · rw [d11, d14 _ i1] at z
          have := (B5 _ (show i - 4 * i' < m by omega)).2
          omega
        · rw [d12, d14 _ i1] at z
          have := (B5 _ (show i - 4 * i' < m by omega)).2
          omega
        · rw [d13, d14 _ i1] at z
          exact absurd z (hne _ (by omega))
        · rw [d14 _ i1, d14 _ j1] at z
          have := B6 _ _ (by omega) (by omega) z
          exact ⟨rfl, by omega⟩
end ZE3
