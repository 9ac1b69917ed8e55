section ZR2
variable {X : zCx} {S : zS} {D : Nat → Nat → Nat} {W : Nat → Nat → Int32} {K : Nat → Nat → Nat} {h : zHp}
/-- the bytes are changed -/
theorem zRel_B (R : zRel X S D W K h) (g : Nat → Int32) : zRel X (zV S 3 g) D W K (zset h (D 2 0) (zI X (sN S 1 0) (gM (zV S 3 g)))) := by
  refine zRel_put (S' := zV S 3 g) (W' := W) (r0 := 2) (i0 := 0) R ⟨rfl, by decide⟩ (fun r i => Iff.rfl) (fun r i hr => ⟨hr, rfl⟩) (fun r i hr hn => ?_)
  match r, hr, hn with
  | 0, _, _ => rfl
  | 1, _, _ => rfl
  | 2, hr, hn => exact absurd ⟨rfl, hr.1⟩ hn
  | 3, _, _ => rfl
  | 4, _, _ => rfl
  | 5, _, _ => rfl
  | 6, _, _ => rfl
  | 7, _, _ => rfl
  | 8, _, _ => rfl
  | 9, _, _ => rfl
  | 10, _, _ => rfl
  | 11, _, _ => rfl
  | 12, _, _ => rfl
  | 13, _, _ => rfl
  | 14, _, _ => rfl
  | 15, _, _ => rfl
  | 16, _, _ => rfl
  | 17, _, _ => rfl
  | 18, _, _ => rfl
  | 19, _, _ => rfl
  | 20, _, _ => rfl
  | 21, _, _ => rfl
  | 22, _, _ => rfl
  | 23, _, _ => rfl
  | 24, _, _ => rfl
  | 25, _, _ => rfl
  | 26, _, _ => rfl
  | n + 27, _, _ => rfl
theorem zRel_same {S' : zS} (R : zRel X S D W K h) (hv : ∀ r i, zvd S' K r i ↔ zvd S K r i) (hl : ∀ r i, zls S' r i → zls S r i ∧ zln S' K r i = zln S K r i) (hc : ∀ r i, zvd S K r i → zce X S' D W K r i = zce X S D W K r i) : zRel X S' D W K h := by
  obtain ⟨R1, R2, R3⟩ := R
  refine ⟨fun r i hr => ?_, fun r i r' i' h1 h2 => R2 r i r' i' ((hv r i).mp h1) ((hv r' i').mp h2), fun r i hr => ?_⟩
  · rw [hc r i ((hv r i).mp hr)]
    exact R1 r i ((hv r i).mp hr)
  · obtain ⟨a, b⟩ := hl r i hr
    rw [b]
    exact R3 r i a
/-- what the reference keeps for itself -/
theorem zRel_T (R : zRel X S D W K h) (w : Int32) : zRel X (sThrow S w) D W K h := by
  refine zRel_same (S' := zV S 0 (fun _ => w)) R (fun r i => Iff.rfl) (fun r i hr => ⟨hr, rfl⟩) (fun r i hr => ?_)
  match r, hr, trivial with
  | 0, _, _ => rfl
  | 1, _, _ => rfl
  | 2, _, _ => rfl
  | 3, _, _ => rfl
  | 4, _, _ => rfl
  | 5, _, _ => rfl
  | 6, _, _ => rfl
  | 7, _, _ => rfl
  | 8, _, _ => rfl
  | 9, _, _ => rfl
  | 10, _, _ => rfl
  | 11, _, _ => rfl
  | 12, _, _ => rfl
  | 13, _, _ => rfl
  | 14, _, _ => rfl
  | 15, _, _ => rfl
  | 16, _, _ => rfl
  | 17, _, _ => rfl
  | 18, _, _ => rfl
  | 19, _, _ => rfl
  | 20, _, _ => rfl
  | 21, _, _ => rfl
  | 22, _, _ => rfl
  | 23, _, _ => rfl
  | 24, _, _ => rfl
  | 25, _, _ => rfl
  | 26, _, _ => rfl
  | n + 27, _, _ => rfl
theorem zRel_28 (R : zRel X S D W K h) (g : Nat → Int32) : zRel X (zV S 28 g) D W K h := by
  refine zRel_same (S' := zV S 28 g) R (fun r i => Iff.rfl) (fun r i hr => ⟨hr, rfl⟩) (fun r i hr => ?_)
  match r, hr, trivial with
  | 0, _, _ => rfl
  | 1, _, _ => rfl
  | 2, _, _ => rfl
  | 3, _, _ => rfl
  | 4, _, _ => rfl
  | 5, _, _ => rfl
  | 6, _, _ => rfl
  | 7, _, _ => rfl
  | 8, _, _ => rfl
  | 9, _, _ => rfl
  | 10, _, _ => rfl
  | 11, _, _ => rfl
  | 12, _, _ => rfl
  | 13, _, _ => rfl
  | 14, _, _ => rfl
  | 15, _, _ => rfl
  | 16, _, _ => rfl
  | 17, _, _ => rfl
  | 18, _, _ => rfl
  | 19, _, _ => rfl
  | 20, _, _ => rfl
  | 21, _, _ => rfl
  | 22, _, _ => rfl
  | 23, _, _ => rfl
  | 24, _, _ => rfl
  | 25, _, _ => rfl
  | 26, _, _ => rfl
  | n + 27, _, _ => rfl
theorem zRel_29 (R : zRel X S D W K h) (g : Nat → Int32) : zRel X (zV S 29 g) D W K h := by
  refine zRel_same (S' := zV S 29 g) R (fun r i => Iff.rfl) (fun r i hr => ⟨hr, rfl⟩) (fun r i hr => ?_)
  match r, hr, trivial with
  | 0, _, _ => rfl
  | 1, _, _ => rfl
  | 2, _, _ => rfl
  | 3, _, _ => rfl
  | 4, _, _ => rfl
  | 5, _, _ => rfl
  | 6, _, _ => rfl
  | 7, _, _ => rfl
  | 8, _, _ => rfl
  | 9, _, _ => rfl
  | 10, _, _ => rfl
  | 11, _, _ => rfl
  | 12, _, _ => rfl
  | 13, _, _ => rfl
  | 14, _, _ => rfl
  | 15, _, _ => rfl
  | 16, _, _ => rfl
  | 17, _, _ => rfl
  | 18, _, _ => rfl
  | 19, _, _ => rfl
  | 20, _, _ => rfl
  | 21, _, _ => rfl
  | 22, _, _ => rfl
  | 23, _, _ => rfl
  | 24, _, _ => rfl
  | 25, _, _ => rfl
  | 26, _, _ => rfl
  | n + 27, _, _ => rfl
theorem zRel_add (R : zRel X S D W K h) (c k : Nat) : zRel X S D W K (zadd h c k) := R
/-- the lists -/
theorem zRel_al (R : zRel X S D W K h) {r i : Nat} (hr : zls S r i) : zAl X h (D r i) (D (r + 1) i) (W r i) (zln S K r i) (K (r + 1) i) (zes S D K r i) := by
  obtain ⟨R1, R2, R3⟩ := R
  obtain ⟨d1, d2, d3⟩ := R3 r i hr
  rcases hr with ⟨rfl, hr⟩ | ⟨rfl, hr⟩
  · rcases hr with rfl | rfl | rfl | rfl | rfl | rfl
    · refine ⟨R1 5 0 ⟨rfl, by decide⟩, ?_, d2, by omega⟩
      by_cases c : K 6 0 = 0
      · exact Or.inl ⟨c, d1 c⟩
      · exact Or.inr ⟨by show 0 < K 6 0; omega, R1 6 0 ⟨rfl, by omega⟩⟩
    · refine ⟨R1 9 0 ⟨rfl, by decide⟩, ?_, d2, by omega⟩
      by_cases c : K 10 0 = 0
      · exact Or.inl ⟨c, d1 c⟩
      · exact Or.inr ⟨by show 0 < K 10 0; omega, R1 10 0 ⟨rfl, by omega⟩⟩
    · refine ⟨R1 16 0 ⟨rfl, by decide⟩, ?_, d2, by omega⟩
      by_cases c : K 17 0 = 0
      · exact Or.inl ⟨c, d1 c⟩
      · exact Or.inr ⟨by show 0 < K 17 0; omega, R1 17 0 ⟨rfl, by omega⟩⟩
    · refine ⟨R1 19 0 ⟨rfl, by decide⟩, ?_, d2, by omega⟩
      by_cases c : K 20 0 = 0
      · exact Or.inl ⟨c, d1 c⟩
      · exact Or.inr ⟨by show 0 < K 20 0; omega, R1 20 0 ⟨rfl, by omega⟩⟩
    · refine ⟨R1 23 0 ⟨rfl, by decide⟩, ?_, d2, by omega⟩
      by_cases c : K 24 0 = 0
      · exact Or.inl ⟨c, d1 c⟩
      · exact Or.inr ⟨by show 0 < K 24 0; omega, R1 24 0 ⟨rfl, by omega⟩⟩
    · refine ⟨R1 25 0 ⟨rfl, by decide⟩, ?_, d2, by omega⟩
      by_cases c : K 26 0 = 0
      · exact Or.inl ⟨c, d1 c⟩
      · exact Or.inr ⟨by show 0 < K 26 0; omega, R1 26 0 ⟨rfl, by omega⟩⟩
  · refine ⟨R1 12 i hr, ?_, d2, by omega⟩
    by_cases c : K 13 i = 0
    · exact Or.inl ⟨c, d1 c⟩
    · exact Or.inr ⟨by show 0 < K 13 i; omega, R1 13 i ⟨hr, by omega⟩⟩
theorem zk8 : zcast 8 "java/lang/Object" = true := by decide +kernel
theorem zk2 : zcast 2 "java/lang/Object" = true := by decide +kernel
theorem zk10 : zcast 10 "java/lang/Object" = true := by decide +kernel
theorem zk1 : zcast 1 "java/lang/Object" = true := by decide +kernel
theorem zk9 : zcast 9 "java/lang/Object" = true := by decide +kernel
theorem zRel_el (R : zRel X S D W K h) {cc : Nat} (I : sInv S cc) (hfd : ∀ j, j < K 50 0 → K 51 j < sN S 23 0) {r i m : Nat} (hr : zls S r i) : zEl h (zes S D K r i) 0 m := by
  obtain ⟨R1, R2, R3⟩ := R
  intro j _ _ y hy
  unfold zes at hy
  by_cases c : j < zln S K r i
  · rw [if_pos c] at hy
    cases hy
    rcases hr with ⟨rfl, hr⟩ | ⟨rfl, hr⟩
    · rcases hr with rfl | rfl | rfl | rfl | rfl | rfl
      · exact ⟨8, _, R1 7 j c, zk8⟩
      · exact ⟨2, _, R1 11 j c, zk2⟩
      · exact ⟨1, _, R1 18 j c, zk1⟩
      · exact ⟨1, _, R1 18 (sN S 24 j) (I.2.2.2.2.2.1.1 j c).1, zk1⟩
      · exact ⟨1, _, R1 18 (K 51 j) (hfd j c), zk1⟩
      · exact ⟨9, _, R1 27 j c, zk9⟩
    · refine ⟨10, _, R1 14 (4 * i + j) ?_, zk10⟩
      have c' : j < sN S 10 i := c
      have h4 := (I.2.2.2.1.2 i hr).2.2.2.2.2.2.2.1
      refine ⟨by omega, ?_⟩
      rw [show (4 * i + j) % 4 = j by omega, show (4 * i + j) / 4 = i by omega]
      exact c'
  · rw [if_neg c] at hy
    cases hy
end ZR2
