/-! the class's objects, by role: D role index is the address, W modCounts and marks, K capacities and the found row -/
def zln (S : zS) (K : Nat → Nat → Nat) (r i : Nat) : Nat := match r with
  | 5 => sN S 7 0
  | 9 => sN S 14 0
  | 12 => sN S 10 i
  | 16 => sN S 23 0
  | 19 => sN S 25 0
  | 23 => K 50 0
  | _ => sN S 27 0
def zel (S : zS) (D K : Nat → Nat → Nat) (r i j : Nat) : Nat := match r with
  | 5 => D 7 j
  | 9 => D 11 j
  | 12 => D 14 (4 * i + j)
  | 16 => D 18 j
  | 19 => D 18 (sN S 24 j)
  | 23 => D 18 (K 51 j)
  | _ => D 27 j
def zes (S : zS) (D K : Nat → Nat → Nat) (r i : Nat) : Nat → Option Nat := fun j => if j < zln S K r i then some (zel S D K r i j) else none
/-- the block whose chunk has unit u -/
noncomputable def zow (S : zS) (u : Nat) : Option Nat := zFst (fun k => sN S 18 k ≠ 2 ∧ sN S 19 k ≤ sN S 1 0 / 4 + 16 * u ∧ sN S 1 0 / 4 + 16 * u < sN S 19 k + sN S 20 k) (sN S 23 0)
noncomputable def zce (X : zCx) (S : zS) (D : Nat → Nat → Nat) (W : Nat → Nat → Int32) (K : Nat → Nat → Nat) (r i : Nat) : va_E := match r with
  | 0 => .inr (11, [.ref (D 1 0), .ref (D 4 0), .ref (D 8 0), .ref (D 15 0), .ref (D 22 0), .ref (D 25 0)])
  | 1 => .inr (7, [.int (nI (sN S 1 0)), .int (nI (sN S 1 0 / 8)), .int (nI (sN S 1 0 / 4)), .ref (D 2 0), .ref (D 3 0)])
  | 2 => zI X (sN S 1 0) (gM S)
  | 3 => zI X (sN S 1 0 / 8) (S 4)
  | 4 => .inr (4, [.ref (D 1 0), .ref (D 5 0)])
  | 5 => zLc (W 5 i) (D 6 i) (zln S K 5 i)
  | 6 => zOb X (K 6 i) (zes S D K 5 i)
  | 7 => .inr (8, zRgF 1 (nI i) (sN S 5 i) (sN S 6 i) 0 0 [])
  | 8 => .inr (3, [.ref (D 1 0), .ref (D 9 0)])
  | 9 => zLc (W 9 i) (D 10 i) (zln S K 9 i)
  | 10 => zOb X (K 10 i) (zes S D K 9 i)
  | 11 => .inr (2, [.int (nI (sN S 8 i)), .int (nI (sN S 9 i - sN S 8 i)), .ref (D 12 i)])
  | 12 => zLc (W 12 i) (D 13 i) (zln S K 12 i)
  | 13 => zOb X (K 13 i) (zes S D K 12 i)
  | 14 => .inr (10, zRgF 2 (nI i) (sN S 11 i) (sN S 12 i) 0 0 [.int (nI (1 - sN S 13 i))])
  | 15 => .inr (5, [.ref (D 1 0), .int (nI (sN S 2 0)), .ref (D 16 0), .ref (D 19 0), .ref (D 21 0), .int (nI (sLive S (sN S 23 0))), .int (nI (sLiveB S (sN S 23 0))), .int (nI (sHB S))])
  | 16 => zLc (W 16 i) (D 17 i) (zln S K 16 i)
  | 17 => zOb X (K 17 i) (zes S D K 16 i)
  | 18 => .inr (1, zRgF 3 (nI i) (sN S 15 i) (sN S 16 i) (S 21 i) (S 22 i) [.int (S 17 i), .int (nI (sN S 19 i)), .int (nI (sN S 20 i)), .int (nI (sN S 18 i)), .int (W 100 i), .int (W 101 i)])
  | 19 => zLc (W 19 i) (D 20 i) (zln S K 19 i)
  | 20 => zOb X (K 20 i) (zes S D K 19 i)
  | 21 => zBk X ((sN S 1 0 - sN S 1 0 / 4) / 16) (fun u => (zow S u).map (D 18))
  | 22 => .inr (6, [.ref (D 1 0), .ref (D 4 0), .ref (D 8 0), .ref (D 15 0), .ref (D 23 0)])
  | 23 => zLc (W 23 i) (D 24 i) (zln S K 23 i)
  | 24 => zOb X (K 24 i) (zes S D K 23 i)
  | 25 => zLc (W 25 i) (D 26 i) (zln S K 25 i)
  | 26 => zOb X (K 26 i) (zes S D K 25 i)
  | _ => .inr (9, [.int (S 26 (10 * i)), .int (S 26 (10 * i + 1)), .int (S 26 (10 * i + 2)), .int (S 26 (10 * i + 3)), .int (S 26 (10 * i + 4)), .int (S 26 (10 * i + 5)), .int (S 26 (10 * i + 6)), .int (S 26 (10 * i + 7)), .int (S 26 (10 * i + 8)), .int (S 26 (10 * i + 9))])
def zvd (S : zS) (K : Nat → Nat → Nat) (r i : Nat) : Prop := match r with
  | 6 => i = 0 ∧ 0 < K 6 0
  | 7 => i < sN S 7 0
  | 10 => i = 0 ∧ 0 < K 10 0
  | 11 => i < sN S 14 0
  | 12 => i < sN S 14 0
  | 13 => i < sN S 14 0 ∧ 0 < K 13 i
  | 14 => i < 4 * sN S 14 0 ∧ i % 4 < sN S 10 (i / 4)
  | 17 => i = 0 ∧ 0 < K 17 0
  | 18 => i < sN S 23 0
  | 20 => i = 0 ∧ 0 < K 20 0
  | 24 => i = 0 ∧ 0 < K 24 0
  | 26 => i = 0 ∧ 0 < K 26 0
  | 27 => i < sN S 27 0
  | _ => i = 0 ∧ r < 26
/-- the lists: role and index -/
def zls (S : zS) (r i : Nat) : Prop := i = 0 ∧ (r = 5 ∨ r = 9 ∨ r = 16 ∨ r = 19 ∨ r = 23 ∨ r = 25) ∨ r = 12 ∧ i < sN S 14 0
def zRel (X : zCx) (S : zS) (D : Nat → Nat → Nat) (W : Nat → Nat → Int32) (K : Nat → Nat → Nat) (h : zHp) : Prop :=
  (∀ r i, zvd S K r i → h.1 (D r i) = some (zce X S D W K r i)) ∧ (∀ r i r' i', zvd S K r i → zvd S K r' i' → D r i = D r' i' → r = r' ∧ i = i') ∧
  ∀ r i, zls S r i → (K (r + 1) i = 0 → zDef X (D (r + 1) i)) ∧ zln S K r i ≤ K (r + 1) i ∧ K (r + 1) i ≤ 1600
section ZRL
variable {X : zCx} {S S' : zS} {D : Nat → Nat → Nat} {W W' : Nat → Nat → Int32} {K : Nat → Nat → Nat} {h : zHp}
/-- one role's cell is changed -/
theorem zRel_put (R : zRel X S D W K h) {r0 i0 : Nat} (h0 : zvd S K r0 i0) (hv : ∀ r i, zvd S' K r i ↔ zvd S K r i) (hl : ∀ r i, zls S' r i → zls S r i ∧ zln S' K r i = zln S K r i) (hc : ∀ r i, zvd S K r i → ¬ (r = r0 ∧ i = i0) → zce X S' D W' K r i = zce X S D W K r i) : zRel X S' D W' K (zset h (D r0 i0) (zce X S' D W' K r0 i0)) := by
  obtain ⟨R1, R2, R3⟩ := R
  refine ⟨fun r i hr => ?_, fun r i r' i' h1 h2 => R2 r i r' i' ((hv r i).mp h1) ((hv r' i').mp h2), fun r i hr => ?_⟩
  · have hr' := (hv r i).mp hr
    by_cases e : r = r0 ∧ i = i0
    · obtain ⟨rfl, rfl⟩ := e
      exact zset_at _ _ _
    · rw [zset_ne _ _ (fun z => e (R2 r i r0 i0 hr' h0 z)), hc r i hr' e]
      exact R1 r i hr'
  · obtain ⟨a, b⟩ := hl r i hr
    rw [b]
    exact R3 r i a
theorem zRel_mem (R : zRel X S D W K h) (In : sIn S) : zMS X h (D 1 0) (D 2 0) (D 3 0) S := by
  obtain ⟨R1, R2, R3⟩ := R
  refine ⟨R1 1 0 ⟨rfl, by decide⟩, R1 2 0 ⟨rfl, by decide⟩, R1 3 0 ⟨rfl, by decide⟩, In.1, In.2.1, In.2.2.1, fun e => ?_⟩
  have := (R2 2 0 3 0 ⟨rfl, by decide⟩ ⟨rfl, by decide⟩ e).1
  omega
/-- the shadows are changed -/
theorem zRel_S (R : zRel X S D W K h) (g : Nat → Int32) : zRel X (zV S 4 g) D W K (zset h (D 3 0) (zI X (sN S 1 0 / 8) g)) := by
  refine zRel_put (S' := zV S 4 g) (W' := W) (r0 := 3) (i0 := 0) R ⟨rfl, by decide⟩ (fun r i => Iff.rfl) (fun r i hr => ⟨hr, rfl⟩) (fun r i hr hn => ?_)
  match r, hr, hn with
  | 0, _, _ => rfl
  | 1, _, _ => rfl
  | 2, _, _ => rfl
  | 3, hr, hn => exact absurd ⟨rfl, hr.1⟩ hn
  | 4, _, _ => rfl
  | 5, _, _ => rfl
  | 6, _, _ => rfl
  | 7, _, _ => rfl
  | 8, _, _ => rfl
  | 9, _, _ => rfl
  | 10, _, _ => rfl
  | 11, _, _ => rfl
  | 12, _, _ => rfl
  | 13, _, _ => rfl
  | 14, _, _ => rfl
  | 15, _, _ => rfl
  | 16, _, _ => rfl
  | 17, _, _ => rfl
  | 18, _, _ => rfl
  | 19, _, _ => rfl
  | 20, _, _ => rfl
  | 21, _, _ => rfl
  | 22, _, _ => rfl
  | 23, _, _ => rfl
  | 24, _, _ => rfl
  | 25, _, _ => rfl
  | 26, _, _ => rfl
  | n + 27, _, _ => rfl
end ZRL
