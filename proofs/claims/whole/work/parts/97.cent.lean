def zU {α : Type} (A : Nat → α) (r : Nat) (g : α) : Nat → α := fun r' => match Nat.beq r' r with
  | true => g
  | false => A r'
section ZE1
variable {s : Nat → Nat} {fr e : Nat} {t : zS × Nat × Nat}
theorem sEntL_0 {k : Nat} (c : s k = 0) : sEntL s fr e t (k + 1) = sEntL s fr e t k := if_pos c
theorem sEntL_1 {k : Nat} (c : s k ≠ 0) : sEntL s fr e t (k + 1) = (sEnt1 (sEntL s fr e t k).1 fr e (s k) (sEntL s fr e t k).2.1 (sEntL s fr e t k).2.2, (sEntL s fr e t k).2.1 + 1, (sEntL s fr e t k).2.2 + sPad (s k)) := if_neg c
theorem sEnt1_g (S : zS) (fr e n many next : Nat) : sEnt1 S fr e n many next 11 = upd (S 11) (4 * fr + many) (nI next) ∧ sEnt1 S fr e n many next 12 = upd (S 12) (4 * fr + many) (nI n) ∧ sEnt1 S fr e n many next 13 = upd (S 13) (4 * fr + many) 0 ∧ sEnt1 S fr e n many next 4 = gOpen (gPaint (S 4) next (next + sPad n) (if next + sPad n = e then 243 else 242)) next n ∧ ∀ k, zno [4, 11, 12, 13] k → sEnt1 S fr e n many next k = S k := by
  refine ⟨rfl, rfl, rfl, rfl, fun k ⟨a, b, c, d, _⟩ => ?_⟩
  simp only [sEnt1, sOpen, sPaint, zV, a, b, c, d]
/-- later steps keep what was laid -/
theorem sEntL_m (k d : Nat) : (sEntL s fr e t k).2.1 ≤ (sEntL s fr e t (k + d)).2.1 ∧ (∀ i, i < 4 * fr + (sEntL s fr e t k).2.1 → (sEntL s fr e t (k + d)).1 11 i = (sEntL s fr e t k).1 11 i ∧ (sEntL s fr e t (k + d)).1 12 i = (sEntL s fr e t k).1 12 i ∧ (sEntL s fr e t (k + d)).1 13 i = (sEntL s fr e t k).1 13 i) ∧ ((sEntL s fr e t (k + d)).2.1 = (sEntL s fr e t k).2.1 → (sEntL s fr e t (k + d)).2.2 = (sEntL s fr e t k).2.2) ∧ ((sEntL s fr e t k).2.1 < (sEntL s fr e t (k + d)).2.1 → (sEntL s fr e t k).2.2 < (sEntL s fr e t (k + d)).2.2) := by
  induction d with
  | zero => exact ⟨Nat.le_refl _, fun i _ => ⟨rfl, rfl, rfl⟩, fun _ => rfl, fun z => absurd z (Nat.lt_irrefl _)⟩
  | succ d ih =>
    rw [show k + (d + 1) = k + d + 1 by omega]
    by_cases c : s (k + d) = 0
    · rw [sEntL_0 c]
      exact ih
    · obtain ⟨i1, i2, i3, i4⟩ := ih
      rw [sEntL_1 c]
      have hp : 32 ≤ sPad (s (k + d)) := by unfold sPad; omega
      obtain ⟨f1, f2, f3, -⟩ := sEnt1_g (sEntL s fr e t (k + d)).1 fr e (s (k + d)) (sEntL s fr e t (k + d)).2.1 (sEntL s fr e t (k + d)).2.2
      refine ⟨by show _ ≤ _ + 1; omega, fun i hi => ?_, fun z => ?_, fun z => ?_⟩
      · dsimp only
        rw [f1, f2, f3, upd_ne (by omega), upd_ne (by omega), upd_ne (by omega)]
        exact i2 i hi
      · exfalso
        have z : (sEntL s fr e t (k + d)).2.1 + 1 = _ := z
        omega
      · show _ < _ + sPad _
        by_cases c2 : (sEntL s fr e t (k + d)).2.1 = (sEntL s fr e t k).2.1
        · have := i3 c2
          omega
        · have := i4 (by omega)
          omega
theorem sEntL_r (k : Nat) : (∀ i, i < 4 * fr → (sEntL s fr e t k).1 11 i = t.1 11 i ∧ (sEntL s fr e t k).1 12 i = t.1 12 i ∧ (sEntL s fr e t k).1 13 i = t.1 13 i) ∧ (∀ q, zno [4, 11, 12, 13] q → (sEntL s fr e t k).1 q = t.1 q) ∧ (t.2.1 = 0 → ∀ j, j < (sEntL s fr e t k).2.1 → (sEntL s fr e t k).1 13 (4 * fr + j) = 0) := by
  induction k with
  | zero => exact ⟨fun i _ => ⟨rfl, rfl, rfl⟩, fun q _ => rfl, fun h0 j hj => by have : j < t.2.1 := hj; omega⟩
  | succ k ih =>
    by_cases c : s k = 0
    · rw [sEntL_0 c]
      exact ih
    · obtain ⟨i1, i2, i3⟩ := ih
      rw [sEntL_1 c]
      obtain ⟨f1, f2, f3, -, f5⟩ := sEnt1_g (sEntL s fr e t k).1 fr e (s k) (sEntL s fr e t k).2.1 (sEntL s fr e t k).2.2
      refine ⟨fun i hi => ?_, fun q hq => ?_, fun h0 j hj => ?_⟩
      · dsimp only
        rw [f1, f2, f3, upd_ne (by omega), upd_ne (by omega), upd_ne (by omega)]
        exact i1 i hi
      · dsimp only
        rw [f5 q hq]
        exact i2 q hq
      · dsimp only
        have hj : j < (sEntL s fr e t k).2.1 + 1 := hj
        rw [f3]
        by_cases c2 : j = (sEntL s fr e t k).2.1
        · rw [c2, upd_at]
        · rw [upd_ne (by omega)]
          exact i3 h0 j (by omega)
end ZE1
/-- the new frame's parts, before the frame is in its list -/
def zFb (X : zCx) (Sx : zS) (b0 fr at' by' m rA cap : Nat) (vA : Nat → Nat) (mc : Int32) (h : zHp) : Prop :=
  h.1 b0 = some (.inr (2, [.int (nI at'), .int (nI by'), .ref (b0 + 1)])) ∧ h.1 (b0 + 1) = some (zLc mc rA m) ∧ (cap = 0 ∧ zDef X rA ∨ cap = 10 ∧ h.1 rA = some (zOb X cap (fun j => if j < m then some (vA j) else none)) ∧ b0 + 2 ≤ rA) ∧ m ≤ cap ∧ (∀ j, j < m → h.1 (vA j) = some (.inr (10, zRgF 2 (nI (4 * fr + j)) (sN Sx 11 (4 * fr + j)) (sN Sx 12 (4 * fr + j)) 0 0 [.int 1])) ∧ b0 + 2 ≤ vA j) ∧ ∀ i j, i < m → j < m → vA i = vA j → i = j
section ZE2
variable {X : zCx} {F : Nat → Option va_E} {o p q : Nat} {S Sx Sy : zS} {D : Nat → Nat → Nat} {W : Nat → Nat → Int32} {K : Nat → Nat → Nat} {h h' : zHp} {cc b0 fr at' by' m rA cap : Nat} {vA : Nat → Nat} {mc : Int32}
theorem zSt_fr (R : zSt X F o S D W K h p q) (hlt : ∀ r i, zvd S K r i → D r i < b0) (hF : ∀ a e, F a = some e → a < b0) (hag : ∀ a, a < b0 → h'.1 a = h.1 a) {c k : Nat} (h2 : h'.2.1 ≤ h.2.1 + c) (h3 : h'.2.2 ≤ h.2.2 + k) : zSt X F o S D W K h' (p + c) (q + k) := by
  obtain ⟨⟨R1, R2, R3⟩, R4, R5, R6, R7, R8⟩ := R
  refine ⟨⟨fun r i v => ?_, R2, R3⟩, R4, R5, fun a e he => ⟨?_, (R6 a e he).2⟩, by omega, by omega⟩
  · rw [hag _ (hlt r i v)]
    exact R1 r i v
  · rw [hag _ (hF a e he)]
    exact (R6 a e he).1
theorem zFb_push (B : zFb X Sx b0 fr at' by' m rA cap vA mc h) (wf : ∀ a e, h.1 a = some e → a < h.2.1) (hm : m < 4) (A n : Nat) (hb0 : b0 + 2 ≤ h.2.1) (e11 : ∀ j, j ≤ m → sN Sy 11 (4 * fr + j) = if j = m then A else sN Sx 11 (4 * fr + j)) (e12 : ∀ j, j ≤ m → sN Sy 12 (4 * fr + j) = if j = m then n else sN Sx 12 (4 * fr + j)) :
    ∃ rA' cap' vA', zFb X Sy b0 fr at' by' (m + 1) rA' cap' vA' (mc + 1) (zPush X (znew h (.inr (10, zRgF 2 (nI (4 * fr + m)) A n 0 0 [.int 1])) 8) (b0 + 1) rA (mc + 1) m cap (fun j => if j < m then some (vA j) else none) h.2.1) ∧ (∀ a, a < b0 → (zPush X (znew h (.inr (10, zRgF 2 (nI (4 * fr + m)) A n 0 0 [.int 1])) 8) (b0 + 1) rA (mc + 1) m cap (fun j => if j < m then some (vA j) else none) h.2.1).1 a = h.1 a) ∧ (zPush X (znew h (.inr (10, zRgF 2 (nI (4 * fr + m)) A n 0 0 [.int 1])) 8) (b0 + 1) rA (mc + 1) m cap (fun j => if j < m then some (vA j) else none) h.2.1).2.1 ≤ h.2.1 + 2 ∧ h.2.1 ≤ (zPush X (znew h (.inr (10, zRgF 2 (nI (4 * fr + m)) A n 0 0 [.int 1])) 8) (b0 + 1) rA (mc + 1) m cap (fun j => if j < m then some (vA j) else none) h.2.1).2.1 ∧ (zPush X (znew h (.inr (10, zRgF 2 (nI (4 * fr + m)) A n 0 0 [.int 1])) 8) (b0 + 1) rA (mc + 1) m cap (fun j => if j < m then some (vA j) else none) h.2.1).2.2 ≤ h.2.2 + 18 := by
  obtain ⟨B1, B2, B3, B4, B5, B6⟩ := B
  have fx : ∀ a, a < h.2.1 → ∀ e k, (znew h e k).1 a = h.1 a := fun a ha e k => znew_ne _ _ _ (by omega)
  have rowe : ∀ x, va_up (fun j => if j < m then some (vA j) else none) m (some x) = fun j => if j < m + 1 then some (if j = m then x else vA j) else none := fun x => funext fun j => by
    show (if j = m then some x else if j < m then some (vA j) else none) = _
    by_cases c : j = m
    · rw [if_pos c, if_pos (by omega), if_pos c]
    · rw [if_neg c]
      by_cases d : j < m
      · rw [if_pos d, if_pos (by omega), if_neg c]
      · rw [if_neg d, if_neg (by omega)]
  have inj : ∀ i j, i < m + 1 → j < m + 1 → (if i = m then h.2.1 else vA i) = (if j = m then h.2.1 else vA j) → i = j := fun i j hi hj z => by
    by_cases c : i = m
    · by_cases d : j = m
      · omega
      · rw [if_pos c, if_neg d] at z
        have := wf _ _ (B5 j (by omega)).1
        omega
    · by_cases d : j = m
      · rw [if_neg c, if_pos d] at z
        have := wf _ _ (B5 i (by omega)).1
        omega
      · rw [if_neg c, if_neg d] at z
        exact B6 i j (by omega) (by omega) z
  have w0 := wf _ _ B1
  have w1 := wf _ _ B2
  unfold zPush
  rcases B3 with ⟨c0, hd⟩ | ⟨c0, hr, hr2⟩
  · have m0 : m = 0 := by omega
    subst m0
    subst c0
    rw [if_neg (by omega)]
    refine ⟨h.2.1 + 1, 10, fun j => if j = 0 then h.2.1 else vA j, ⟨?_, zset_at _ _ _, Or.inr ⟨rfl, ?_, by omega⟩, by omega, fun j hj => ?_, inj⟩, fun a ha => ?_, Nat.le_refl _, by show h.2.1 ≤ h.2.1 + 1 + 1; omega, Nat.le_refl _⟩
    · rw [zset_ne _ _ (by omega), znew_ne _ _ _ (by show b0 ≠ h.2.1 + 1; omega), fx _ w0]
      exact B1
    · rw [zset_ne _ _ (by omega)]
      refine (znew_at _ _ _).trans ?_
      rw [show (fun i => if i < 0 then (fun j => if j < 0 then some (vA j) else none) i else none) = (fun j => if j < 0 then some (vA j) else none : Nat → Option Nat) from funext fun i => by rw [if_neg (by omega), if_neg (by omega)], rowe]
      rfl
    · have j0 : j = 0 := by omega
      subst j0
      refine ⟨?_, by show b0 + 2 ≤ h.2.1; omega⟩
      show (zset _ _ _).1 h.2.1 = _
      rw [zset_ne _ _ (by omega), znew_ne _ _ _ (by show h.2.1 ≠ h.2.1 + 1; omega), znew_at, e11 0 (by omega), e12 0 (by omega), if_pos rfl, if_pos rfl]
    · rw [zset_ne _ _ (by omega), znew_ne _ _ _ (by show a ≠ h.2.1 + 1; omega), fx _ (by omega)]
  · rw [if_pos (by omega)]
    have wr := wf _ _ hr
    refine ⟨rA, cap, fun j => if j = m then h.2.1 else vA j, ⟨?_, zset_at _ _ _, Or.inr ⟨c0, ?_, hr2⟩, by omega, fun j hj => ?_, inj⟩, fun a ha => ?_, by show h.2.1 + 1 ≤ _; omega, by show h.2.1 ≤ h.2.1 + 1; omega, by show h.2.2 + 8 ≤ _; omega⟩
    · rw [zset_ne _ _ (by omega), zset_ne _ _ (by omega), fx _ w0]
      exact B1
    · rw [zset_ne _ _ (by omega), zset_at, rowe]
    · by_cases c : j = m
      · subst c
        dsimp only
        rw [if_pos rfl, e11 j (by omega), e12 j (by omega), if_pos rfl, if_pos rfl]
        refine ⟨?_, by omega⟩
        rw [zset_ne _ _ (by omega), zset_ne _ _ (by omega), znew_at]
      · dsimp only
        rw [if_neg c, e11 j (by omega), e12 j (by omega), if_neg c, if_neg c]
        obtain ⟨q1, q2⟩ := B5 j (by omega)
        refine ⟨?_, q2⟩
        have hne : vA j ≠ rA := fun z => by
          rw [z, hr] at q1
          cases q1
        rw [zset_ne _ _ (by omega), zset_ne _ _ hne, fx _ (wf _ _ q1)]
        exact q1
    · rw [zset_ne _ _ (by omega), zset_ne _ _ (by omega), fx _ (by omega)]
end ZE2
