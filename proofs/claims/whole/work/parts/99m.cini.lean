section ZIN
variable {X : zCx} {F : Nat → Option va_E} {o : Nat} {h : zHp}
theorem zwf_set {h : zHp} {a : Nat} {e0 e : va_E} (wf : ∀ a e, h.1 a = some e → a < h.2.1) (h0 : h.1 a = some e0) : ∀ x e', (zset h a e).1 x = some e' → x < (zset h a e).2.1 := by
  intro x e' hx
  show x < h.2.1
  by_cases c : x = a
  · rw [c]; exact wf a e0 h0
  · rw [zset_ne _ _ c] at hx
    exact wf x e' hx
def zV0 (F : Nat → Option va_E) : Nat → Nat → Prop := fun r i => (r = 0 ∧ i = 0) ∨ (r = 30 ∧ ∃ e, F i = some e)
abbrev zD0 (t0 o : Nat) : Nat → Nat → Nat := zU (zU (fun _ _ => t0) 0 (fun _ => o)) 30 (fun i => i)
abbrev zT0 (F : Nat → Option va_E) (e : va_E) : Nat → Nat → va_E := zU (fun _ _ => e) 30 (fun i => (F i).getD zR0)
theorem zW_0 {e : va_E} (ho : h.1 o = some e) (hF : ∀ a e, F a = some e → h.1 a = some e ∧ a ≠ o) (t0 : Nat) : zW (zD0 t0 o) (zV0 F) (zT0 F e) h := by
  refine ⟨fun r i v => ?_, fun r i r' i' v v' z => ?_⟩
  · rcases v with ⟨rfl, rfl⟩ | ⟨rfl, e', he⟩
    · exact ho
    · show h.1 i = some ((F i).getD zR0)
      rw [(hF i e' he).1, he]
      rfl
  · rcases v with ⟨rfl, rfl⟩ | ⟨rfl, e', he⟩ <;> rcases v' with ⟨rfl, rfl⟩ | ⟨rfl, e2, he2⟩
    · exact ⟨rfl, rfl⟩
    · exact absurd z.symm (hF i' e2 he2).2
    · exact absurd z (hF i e' he).2
    · exact ⟨rfl, z⟩
theorem zSt_ini {p q : Int32} {D : Nat → Nat → Nat} {V : Nat → Nat → Prop} {T : Nat → Nat → va_E} {P1 Q1 t0 : Nat} (hD : zDef X t0) (w : zW D V T h) (hb1 : h.2.1 ≤ zB X + P1) (hb2 : h.2.2 ≤ Q1) (d0 : D 0 0 = o) (d30 : ∀ a, D 30 a = a) (vF : ∀ a e, F a = some e → V 30 a ∧ T 30 a = e)
    (dt : D 6 0 = t0 ∧ D 10 0 = t0 ∧ D 17 0 = t0 ∧ D 20 0 = t0 ∧ D 24 0 = t0 ∧ D 26 0 = t0)
    (c0 : V 0 0 ∧ T 0 0 = .inr (11, [.ref (D 1 0), .ref (D 4 0), .ref (D 8 0), .ref (D 15 0), .ref (D 22 0), .ref (D 25 0)]))
    (c1 : V 1 0 ∧ T 1 0 = .inr (7, [.int (nI (sNn p)), .int (nI (sNn p / 8)), .int (nI (sNn p / 4)), .ref (D 2 0), .ref (D 3 0)]))
    (c2 : V 2 0 ∧ T 2 0 = zI X (sNn p) (fun _ => 0))
    (c3 : V 3 0 ∧ T 3 0 = zI X (sNn p / 8) (sIniG (sNn p) (sNn p / 8)))
    (c4 : V 4 0 ∧ T 4 0 = .inr (4, [.ref (D 1 0), .ref (D 5 0)]))
    (c5 : V 5 0 ∧ T 5 0 = zLc 0 t0 0)
    (c8 : V 8 0 ∧ T 8 0 = .inr (3, [.ref (D 1 0), .ref (D 9 0)]))
    (c9 : V 9 0 ∧ T 9 0 = zLc 0 t0 0)
    (c15 : V 15 0 ∧ T 15 0 = .inr (5, [.ref (D 1 0), .int (nI (sQq p q)), .ref (D 16 0), .ref (D 19 0), .ref (D 21 0), .int 0, .int 0, .int 0]))
    (c16 : V 16 0 ∧ T 16 0 = zLc 0 t0 0)
    (c19 : V 19 0 ∧ T 19 0 = zLc 0 t0 0)
    (c21 : V 21 0 ∧ T 21 0 = zBk X ((sNn p - sNn p / 4) / 16) (fun _ => none))
    (c22 : V 22 0 ∧ T 22 0 = .inr (6, [.ref (D 1 0), .ref (D 4 0), .ref (D 8 0), .ref (D 15 0), .ref (D 23 0)]))
    (c23 : V 23 0 ∧ T 23 0 = zLc 0 t0 0)
    (c25 : V 25 0 ∧ T 25 0 = zLc 0 t0 0)
    : zSt X F o (sIni p q) D (fun _ _ => 0) (fun _ _ => 0) h P1 Q1 := by
  have hN := sNn_b p
  have hQ := sQq_b p q
  have s1 : sN (sIni p q) 1 0 = sNn p := n_toNat (by omega)
  have s2 : sN (sIni p q) 2 0 = sQq p q := n_toNat (by omega)
  have s4 : sIni p q 4 = sIniG (sNn p) (sNn p / 8) := rfl
  have s7 : sN (sIni p q) 7 0 = 0 := rfl
  have s14 : sN (sIni p q) 14 0 = 0 := rfl
  have s23 : sN (sIni p q) 23 0 = 0 := rfl
  have s25 : sN (sIni p q) 25 0 = 0 := rfl
  have s27 : sN (sIni p q) 27 0 = 0 := rfl
  obtain ⟨S, eS⟩ : ∃ S, S = sIni p q := ⟨_, rfl⟩
  have s3 : gM S = fun _ => 0 := by rw [eS]; funext i; show (0 : Int32) &&& 255 = 0; decide
  rw [← eS] at s1 s2 s4 s7 s14 s23 s25 s27 ⊢
  obtain ⟨d6, d10, d17, d20, d24, d26⟩ := dt
  have key : ∀ r i, zvd S (fun _ _ => 0) r i → V r i ∧ T r i = zce X S D (fun _ _ => 0) (fun _ _ => 0) r i := by
    intro r i v
    match r, v with
    | 0, v =>
      obtain ⟨rfl, -⟩ := id v
      exact c0
    | 1, v =>
      obtain ⟨rfl, -⟩ := id v
      refine ⟨c1.1, ?_⟩
      rw [c1.2]
      show _ = (Sum.inr (7, [.int (nI (sN S 1 0)), .int (nI (sN S 1 0 / 8)), .int (nI (sN S 1 0 / 4)), .ref (D 2 0), .ref (D 3 0)]) : va_E)
      rw [s1]
    | 2, v =>
      obtain ⟨rfl, -⟩ := id v
      refine ⟨c2.1, ?_⟩
      rw [c2.2]
      show _ = zI X (sN S 1 0) (gM S)
      rw [s1, s3]
    | 3, v =>
      obtain ⟨rfl, -⟩ := id v
      refine ⟨c3.1, ?_⟩
      rw [c3.2]
      show _ = zI X (sN S 1 0 / 8) (S 4)
      rw [s1, s4]
    | 4, v =>
      obtain ⟨rfl, -⟩ := id v
      exact c4
    | 5, v =>
      obtain ⟨rfl, -⟩ := id v
      refine ⟨c5.1, ?_⟩
      rw [c5.2]
      show _ = zLc 0 (D 6 0) (sN S 7 0)
      rw [d6, s7]
    | 6, v => exact absurd v.2 (Nat.lt_irrefl 0)
    | 7, v =>
      have v : i < sN S 7 0 := v
      omega
    | 8, v =>
      obtain ⟨rfl, -⟩ := id v
      exact c8
    | 9, v =>
      obtain ⟨rfl, -⟩ := id v
      refine ⟨c9.1, ?_⟩
      rw [c9.2]
      show _ = zLc 0 (D 10 0) (sN S 14 0)
      rw [d10, s14]
    | 10, v => exact absurd v.2 (Nat.lt_irrefl 0)
    | 11, v =>
      have v : i < sN S 14 0 := v
      omega
    | 12, v =>
      have v : i < sN S 14 0 := v
      omega
    | 13, v => exact absurd v.2 (Nat.lt_irrefl 0)
    | 14, v =>
      have v : i < 4 * sN S 14 0 ∧ i % 4 < sN S 10 (i / 4) := v
      omega
    | 15, v =>
      obtain ⟨rfl, -⟩ := id v
      refine ⟨c15.1, ?_⟩
      rw [c15.2]
      show _ = (Sum.inr (5, [.ref (D 1 0), .int (nI (sN S 2 0)), .ref (D 16 0), .ref (D 19 0), .ref (D 21 0), .int (nI (sLive S (sN S 23 0))), .int (nI (sLiveB S (sN S 23 0))), .int (nI (zSum (fun i => sN S 20 (sN S 24 i)) (sN S 25 0)))]) : va_E)
      rw [s2, s23, s25]
      rfl
    | 16, v =>
      obtain ⟨rfl, -⟩ := id v
      refine ⟨c16.1, ?_⟩
      rw [c16.2]
      show _ = zLc 0 (D 17 0) (sN S 23 0)
      rw [d17, s23]
    | 17, v => exact absurd v.2 (Nat.lt_irrefl 0)
    | 18, v =>
      have v : i < sN S 23 0 := v
      omega
    | 19, v =>
      obtain ⟨rfl, -⟩ := id v
      refine ⟨c19.1, ?_⟩
      rw [c19.2]
      show _ = zLc 0 (D 20 0) (sN S 25 0)
      rw [d20, s25]
    | 20, v => exact absurd v.2 (Nat.lt_irrefl 0)
    | 21, v =>
      obtain ⟨rfl, -⟩ := id v
      refine ⟨c21.1, ?_⟩
      rw [c21.2]
      show _ = zBk X ((sN S 1 0 - sN S 1 0 / 4) / 16) (fun u => (zow S u).map (D 18))
      rw [s1]
      refine congrArg (zBk X ((sNn p - sNn p / 4) / 16)) (funext fun u => ?_)
      unfold zow
      rw [s23]
      rfl
    | 22, v =>
      obtain ⟨rfl, -⟩ := id v
      exact c22
    | 23, v =>
      obtain ⟨rfl, -⟩ := id v
      refine ⟨c23.1, ?_⟩
      rw [c23.2]
      show _ = zLc 0 (D 24 0) 0
      rw [d24]
    | 24, v => exact absurd v.2 (Nat.lt_irrefl 0)
    | 25, v =>
      obtain ⟨rfl, -⟩ := id v
      refine ⟨c25.1, ?_⟩
      rw [c25.2]
      show _ = zLc 0 (D 26 0) (sN S 27 0)
      rw [d26, s27]
    | 26, v => exact absurd v.2 (Nat.lt_irrefl 0)
    | 27, v =>
      have v : i < sN S 27 0 := v
      omega
    | n + 28, v => exact absurd v.2 (by omega)
  refine ⟨⟨fun r i v => ?_, fun r i r' i' v v' => w.2 r i r' i' (key r i v).1 (key r' i' v').1, fun r i hl => ?_⟩, ⟨d0, d30⟩, fun j hj => by have : j < 0 := hj; omega, fun a e he => ?_, by show h.2.1 ≤ zB X + P1 + 0; omega, by show h.2.2 ≤ Q1 + 4 * 0; omega⟩
  · rw [← (key r i v).2]
    exact w.1 r i (key r i v).1
  · obtain ⟨rfl, hr⟩ | ⟨-, z⟩ := hl
    · rcases hr with rfl | rfl | rfl | rfl | rfl | rfl
      · exact ⟨fun _ => by show zDef X (D 6 0); rw [d6]; exact hD, by show sN S 7 0 ≤ 0; omega, Nat.zero_le _⟩
      · exact ⟨fun _ => by show zDef X (D 10 0); rw [d10]; exact hD, by show sN S 14 0 ≤ 0; omega, Nat.zero_le _⟩
      · exact ⟨fun _ => by show zDef X (D 17 0); rw [d17]; exact hD, by show sN S 23 0 ≤ 0; omega, Nat.zero_le _⟩
      · exact ⟨fun _ => by show zDef X (D 20 0); rw [d20]; exact hD, by show sN S 25 0 ≤ 0; omega, Nat.zero_le _⟩
      · exact ⟨fun _ => by show zDef X (D 24 0); rw [d24]; exact hD, Nat.le_refl _, by decide⟩
      · exact ⟨fun _ => by show zDef X (D 26 0); rw [d26]; exact hD, by show sN S 27 0 ≤ 0; omega, Nat.zero_le _⟩
    · omega
  · obtain ⟨v1, v2⟩ := vF a e he
    have q := w.1 30 a v1
    rw [d30, v2] at q
    refine ⟨q, fun r i v z => ?_⟩
    have := (w.2 r i 30 a (key r i v).1 v1 (by rw [z, d30])).1
    have := zvd_28 v
    omega
end ZIN
