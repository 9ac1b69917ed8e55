/-! the class's state: relation, foreign cells F (role 30), what was used -/
def zVF (F : Nat → Option va_E) (S : zS) (K : Nat → Nat → Nat) : Nat → Nat → Prop := fun r i => zvd S K r i ∨ r = 30 ∧ ∃ e, F i = some e
noncomputable def zTF (X : zCx) (F : Nat → Option va_E) (S : zS) (D : Nat → Nat → Nat) (W : Nat → Nat → Int32) (K : Nat → Nat → Nat) : Nat → Nat → va_E := fun r i => match Nat.beq r 30 with
  | true => (F i).getD zR0
  | false => zce X S D W K r i
def zSt (X : zCx) (F : Nat → Option va_E) (o : Nat) (S : zS) (D : Nat → Nat → Nat) (W : Nat → Nat → Int32) (K : Nat → Nat → Nat) (h : zHp) (p q : Nat) : Prop := zRel X S D W K h ∧ (D 0 0 = o ∧ ∀ a, D 30 a = a) ∧ (∀ j, j < K 50 0 → K 51 j < sN S 23 0) ∧ (∀ a e, F a = some e → h.1 a = some e ∧ ∀ r i, zvd S K r i → D r i ≠ a) ∧ h.2.1 ≤ zB X + p + K 24 0 ∧ h.2.2 ≤ q + 4 * K 24 0
section ZST
variable {X : zCx} {F : Nat → Option va_E} {o p q p' q' : Nat} {S S' : zS} {D D' : Nat → Nat → Nat} {W W' : Nat → Nat → Int32} {K K' : Nat → Nat → Nat} {h h' : zHp} {A B C E : List Nat} {V' : Nat → Nat → Prop} {T' : Nat → Nat → va_E}
theorem zvd_28 {r i : Nat} (hv : zvd S K r i) : r < 28 := by
  by_cases c : r < 28
  · exact c
  · obtain ⟨n, rfl⟩ : ∃ n, r = n + 28 := ⟨r - 28, by omega⟩
    have := hv.2
    omega
theorem zTF_ne {r : Nat} (c : r ≠ 30) (i : Nat) : zTF X F S D W K r i = zce X S D W K r i := by
  unfold zTF
  rw [nb_ne c]
theorem zSt_W (R : zSt X F o S D W K h p q) : zW D (zVF F S K) (zTF X F S D W K) h := by
  obtain ⟨⟨R1, R2, R3⟩, ⟨R4, R5⟩, R6, R7, R8⟩ := R
  refine ⟨fun r i v => ?_, fun r i r' i' v v' z => ?_⟩
  · rcases v with v | ⟨rfl, e, he⟩
    · rw [zTF_ne (by have := zvd_28 v; omega)]
      exact R1 r i v
    · rw [R5, (R7 i e he).1]
      show _ = some ((F i).getD zR0)
      rw [he]
      rfl
  · rcases v with v | ⟨rfl, e, he⟩
    · rcases v' with v' | ⟨rfl, e', he'⟩
      · exact R2 r i r' i' v v' z
      · rw [R5] at z
        exact absurd z ((R7 i' e' he').2 r i v)
    · rcases v' with v' | ⟨rfl, e', he'⟩
      · rw [R5] at z
        exact absurd z.symm ((R7 i e he).2 r' i' v')
      · rw [R5, R5] at z
        exact ⟨rfl, z⟩
def zK1 (A B C E : List Nat) (V : Nat → Nat → Prop) (T : Nat → Nat → va_E) (V' : Nat → Nat → Prop) (T' : Nat → Nat → va_E) : Prop := ∀ r i, zhk A B C E r = true → V r i → V' r i ∧ T' r i = T r i
theorem zK1_r {V : Nat → Nat → Prop} {T : Nat → Nat → va_E} : zK1 A B C E V T V T := fun _ _ _ v => ⟨v, rfl⟩
theorem zK1_u {V : Nat → Nat → Prop} {T : Nat → Nat → va_E} {r0 i0 : Nat} {e : va_E} (c : zhk A B C E r0 = false) (k : zK1 A B C E V T V' T') : zK1 A B C E V T V' (u2 T' r0 i0 e) := fun r i hr v => ⟨(k r i hr v).1, by
  rw [u2_nr (fun z => by rw [z, c] at hr; cases hr)]
  exact (k r i hr v).2⟩
theorem zK1_a {V : Nat → Nat → Prop} {T : Nat → Nat → va_E} {r0 i0 : Nat} (k : zK1 A B C E V T V' T') : zK1 A B C E V T (zVa V' r0 i0) T' := fun r i hr v => ⟨Or.inl (k r i hr v).1, (k r i hr v).2⟩
theorem zSt_mk (A B C E : List Nat) (R : zSt X F o S D W K h p q) (w : zW D' V' T' h') (hS : ∀ k, zno A k → S' k = S k) (hD : ∀ k, zno B k → D' k = D k) (hW : ∀ k, zno C k → W' k = W k) (hK : ∀ k, zno E k → K' k = K k) (h1 : zK1 A B C E (zVF F S K) (zTF X F S D W K) V' T')
    (h2 : ∀ r i, r < 28 → zhk A B C E r = false → zvd S' K' r i → V' r i ∧ T' r i = zce X S' D' W' K' r i)
    (h3 : ∀ r i, r < 28 → zhk A B C E r = false → zls S' r i → (K' (r + 1) i = 0 → zDef X (D' (r + 1) i)) ∧ zln S' K' r i ≤ K' (r + 1) i ∧ K' (r + 1) i ≤ 1600)
    (h4 : (zok B 0 && zok B 30) = true) (hfd : ∀ j, j < K' 50 0 → K' 51 j < sN S' 23 0) (hb : h'.2.1 ≤ zB X + p' + K' 24 0 ∧ h'.2.2 ≤ q' + 4 * K' 24 0) : zSt X F o S' D' W' K' h' p' q' := by
  have w0 := zSt_W R
  obtain ⟨⟨R1, R2, R3⟩, ⟨R4, R5⟩, R6, R7, R8⟩ := R
  rw [Bool.and_eq_true] at h4
  have e0 := hD 0 (zno_ok h4.1)
  have e30 := hD 30 (zno_ok h4.2)
  have c30 : zhk A B C E 30 = true := h4.2
  have key : ∀ r i, zvd S' K' r i → V' r i ∧ T' r i = zce X S' D' W' K' r i := by
    intro r i v
    have h28 := zvd_28 v
    cases hc : zhk A B C E r with
    | false => exact h2 r i h28 hc v
    | true =>
      obtain ⟨q1, q2, q3⟩ := zun (X := X) hS hD hW hK h28 hc i
      obtain ⟨q4, q5⟩ := h1 r i hc (Or.inl (q2.mp v))
      refine ⟨q4, ?_⟩
      rw [q5, zTF_ne (by omega), q1]
  refine ⟨⟨fun r i v => ?_, fun r i r' i' v v' => w.2 r i r' i' (key r i v).1 (key r' i' v').1, fun r i hl => ?_⟩, ⟨by rw [e0]; exact R4, fun a => by rw [e30]; exact R5 a⟩, hfd, fun a e he => ?_, hb⟩
  · rw [← (key r i v).2]
    exact w.1 r i (key r i v).1
  · have h28 : r < 28 := by rcases hl with ⟨-, z⟩ | ⟨z, -⟩ <;> omega
    cases hc : zhk A B C E r with
    | false => exact h3 r i h28 hc hl
    | true =>
      obtain ⟨q1, q2, q3, q4⟩ := zul hS hD hW hK hl hc
      rw [q1, q2, q3]
      exact R3 r i q4
  · obtain ⟨q4, q5⟩ := h1 30 a c30 (Or.inr ⟨rfl, e, he⟩)
    have q6 := w.1 30 a q4
    have e9 : D' 30 a = a := by rw [e30]; exact R5 a
    rw [e9, q5] at q6
    refine ⟨?_, fun r i v z => ?_⟩
    · rw [q6]
      show some ((F a).getD zR0) = _
      rw [he]
      rfl
    · have := (w.2 r i 30 a (key r i v).1 q4 (by rw [z, e9])).1
      have := zvd_28 v
      omega
end ZST
