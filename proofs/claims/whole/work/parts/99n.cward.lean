section ZWD
variable {X : zCx} {F : Nat → Option va_E} {o : Nat} {h : zHp}
abbrev zWc (l : List Value) : va_E := .inr (11, l)
theorem z_gen {M : zMI} {f : zFr} {pc : Nat} {L : zLo} {st : List Value} {Q : zRs → zHp → Prop} (P : zHp → Prop) (hp : P h) (k : ∀ g, P g → Z X M f g pc L st Q) : Z X M f h pc L st Q := k h hp
theorem k_init (G : zG X) (p q : Int32) (ho : h.1 o = some (zWc [.null, .null, .null, .null, .null, .null])) (hF : ∀ a e, F a = some e → h.1 a = some e ∧ a ≠ o) (P1 Q1 : Nat) (hb1 : h.2.1 + 14 ≤ zB X + P1) (hb2 : h.2.2 + 10000 ≤ Q1) (hl : P1 ≤ 500000 ∧ Q1 ≤ 7000000) : ZM X MX10_init 5 250 [.ref o, .int p, .int q] h (fun r h' => r = .inl none ∧ ∃ D W K, zSt X F o (sIni p q) D W K h' P1 Q1) := by
  obtain ⟨t0, hD⟩ := zDef_ex G
  have hN := sNn_b p
  have w0 := zW_0 (F := F) ho hF t0
  refine zm_of_z G KX10_init rfl rfl ?_
  refine z_wf fun wf9 _ => ?_
  have wf0 : ∀ a e, h.1 a = some e → a < h.2.1 := fun a e he => (wf9 a e he).2
  have lo := wf0 _ _ ho
  refine z_go 90 rfl ?_
  refine z_obj rfl rfl zoiI zoiC rfl rfl rfl ?_
  refine z_go 90 rfl ?_
  refine z_new 7 (by decide) rfl rfl zn_7 ⟨by show h.2.1 + 1 ≤ _; omega, by show h.2.2 + 5 ≤ _; omega⟩ ?_
  refine z_go 90 rfl ?_
  have w1 := zW_new w0 wf0 1 0 (.inr (7, [.int 0, .int 0, .int 0, .null, .null])) 5
  refine z_cI (c_initM G p (show h.2.1 < h.2.1 + 1 by omega) (znew_at _ _ _) ⟨by show h.2.1 + 1 + 2 ≤ _; omega, by show h.2.2 + 5 + 9300 ≤ _; omega⟩) KX6_init IX6_init rfl rfl rfl rfl rfl PX6_init rfl rfl rfl rfl ?_
  have w2 := zW_put (zW_new (zW_new w1 (zwf_new wf0) 2 0 (zI X (sNn p) (fun _ => 0)) (sNn p)) (zwf_new (zwf_new wf0)) 3 0 (zI X (sNn p / 8) (sIniG (sNn p) (sNn p / 8))) (sNn p / 8)) (r := 1) (i := 0) (Or.inl (Or.inl (Or.inr ⟨rfl, rfl⟩))) (.inr (7, [.int (nI (sNn p)), .int (nI (sNn p / 8)), .int (nI (sNn p / 4)), .ref (h.2.1 + 1), .ref (h.2.1 + 1 + 1)]))
  refine z_putF (show _ = some (zWc [.null, .null, .null, .null, .null, .null]) from w2.1 0 0 (Or.inl (Or.inl (Or.inl (Or.inl ⟨rfl, rfl⟩))))) rfl rfl rfl rfl rfl rfl rfl rfl (by simp) ?_
  have w3 := zW_put w2 (r := 0) (i := 0) (Or.inl (Or.inl (Or.inl (Or.inl ⟨rfl, rfl⟩)))) (zWc [.ref h.2.1, .null, .null, .null, .null, .null])
  refine z_wf fun wfA _ => ?_
  refine z_gen (P := fun g => zW (u2 (u2 (u2 (zD0 t0 o) 1 0 h.2.1) 2 0 (h.2.1 + 1)) 3 0 (h.2.1 + 2)) (zVa (zVa (zVa (zV0 F) 1 0) 2 0) 3 0) (u2 (u2 (u2 (u2 (u2 (zT0 F (zWc [.null, .null, .null, .null, .null, .null])) 1 0 (.inr (7, [.int 0, .int 0, .int 0, .null, .null]))) 2 0 (zI X (sNn p) (fun _ => 0))) 3 0 (zI X (sNn p / 8) (sIniG (sNn p) (sNn p / 8)))) 1 0 (.inr (7, [.int (nI (sNn p)), .int (nI (sNn p / 8)), .int (nI (sNn p / 4)), .ref (h.2.1 + 1), .ref (h.2.1 + 1 + 1)]))) 0 0 (zWc [.ref h.2.1, .null, .null, .null, .null, .null])) g ∧ (∀ a e, g.1 a = some e → a < g.2.1) ∧ g.2.1 = h.2.1 + 3 ∧ g.2.2 = h.2.2 + 5 + sNn p + sNn p / 8) ⟨w3, fun a e he => (wfA a e he).2, ?_, ?_⟩ ?_
  · rfl
  · rfl
  rintro g1 ⟨w, wf, n1, n2⟩
  refine z_go 90 rfl ?_
  refine z_new 4 (by decide) rfl rfl zn_4 ⟨by show g1.2.1 + 1 ≤ _; omega, by show g1.2.2 + 2 ≤ _; omega⟩ ?_
  have w1 := zW_new w wf 4 0 (.inr (4, [.null, .null])) 2
  refine z_go 90 rfl ?_
  refine z_get (show _ = some (zWc [.ref h.2.1, .null, .null, .null, .null, .null]) from w1.1 0 0 (Or.inl (Or.inl (Or.inl (Or.inl (Or.inl ⟨rfl, rfl⟩)))))) rfl rfl rfl rfl ?_
  refine z_go 90 rfl ?_
  refine z_cI (c_initG G hD (show g1.2.1 < g1.2.1 + 1 by omega) (znew_at _ _ _) ⟨by show g1.2.1 + 1 + 1 ≤ _; omega, by show g1.2.2 + 2 + 3 ≤ _; omega⟩) KX3_init IX3_init rfl rfl rfl rfl rfl PX3_init rfl rfl rfl rfl ?_
  have w2 := zW_put (zW_new w1 (zwf_new wf) 5 0 (zLc 0 t0 0) 3) (r := 4) (i := 0) (Or.inl (Or.inr ⟨rfl, rfl⟩)) (.inr (4, [.ref h.2.1, .ref (g1.2.1 + 1)]))
  refine z_putF (show _ = some (zWc [.ref h.2.1, .null, .null, .null, .null, .null]) from w2.1 0 0 (Or.inl (Or.inl (Or.inl (Or.inl (Or.inl (Or.inl ⟨rfl, rfl⟩))))))) rfl rfl rfl rfl rfl rfl rfl rfl (by simp) ?_
  have w3 := zW_put w2 (r := 0) (i := 0) (Or.inl (Or.inl (Or.inl (Or.inl (Or.inl (Or.inl ⟨rfl, rfl⟩)))))) (zWc [.ref h.2.1, .ref g1.2.1, .null, .null, .null, .null])
  refine z_wf fun wfA _ => ?_
  refine z_gen (P := fun g => zW (u2 (u2 (u2 (u2 (u2 (zD0 t0 o) 1 0 h.2.1) 2 0 (h.2.1 + 1)) 3 0 (h.2.1 + 2)) 4 0 g1.2.1) 5 0 (g1.2.1 + 1)) (zVa (zVa (zVa (zVa (zVa (zV0 F) 1 0) 2 0) 3 0) 4 0) 5 0) (u2 (u2 (u2 (u2 (u2 (u2 (u2 (u2 (u2 (zT0 F (zWc [.null, .null, .null, .null, .null, .null])) 1 0 (.inr (7, [.int 0, .int 0, .int 0, .null, .null]))) 2 0 (zI X (sNn p) (fun _ => 0))) 3 0 (zI X (sNn p / 8) (sIniG (sNn p) (sNn p / 8)))) 1 0 (.inr (7, [.int (nI (sNn p)), .int (nI (sNn p / 8)), .int (nI (sNn p / 4)), .ref (h.2.1 + 1), .ref (h.2.1 + 1 + 1)]))) 0 0 (zWc [.ref h.2.1, .null, .null, .null, .null, .null])) 4 0 (.inr (4, [.null, .null]))) 5 0 (zLc 0 t0 0)) 4 0 (.inr (4, [.ref h.2.1, .ref (g1.2.1 + 1)]))) 0 0 (zWc [.ref h.2.1, .ref g1.2.1, .null, .null, .null, .null])) g ∧ (∀ a e, g.1 a = some e → a < g.2.1) ∧ g.2.1 = h.2.1 + 5 ∧ g.2.2 = h.2.2 + 5 + sNn p + sNn p / 8 + 2 + 3) ⟨w3, fun a e he => (wfA a e he).2, ?_, ?_⟩ ?_
  · show g1.2.1 + 1 + 1 = _; omega
  · show g1.2.2 + 2 + 3 = _; omega
  rintro g2 ⟨w, wf, n1, n2⟩
  refine z_go 90 rfl ?_
  refine z_new 3 (by decide) rfl rfl zn_3 ⟨by show g2.2.1 + 1 ≤ _; omega, by show g2.2.2 + 2 ≤ _; omega⟩ ?_
  have w1 := zW_new w wf 8 0 (.inr (3, [.null, .null])) 2
  refine z_go 90 rfl ?_
  refine z_get (show _ = some (zWc [.ref h.2.1, .ref g1.2.1, .null, .null, .null, .null]) from w1.1 0 0 (Or.inl (Or.inl (Or.inl (Or.inl (Or.inl (Or.inl (Or.inl ⟨rfl, rfl⟩)))))))) rfl rfl rfl rfl ?_
  refine z_go 90 rfl ?_
  refine z_cI (c_initFs G hD (show g2.2.1 < g2.2.1 + 1 by omega) (znew_at _ _ _) ⟨by show g2.2.1 + 1 + 1 ≤ _; omega, by show g2.2.2 + 2 + 3 ≤ _; omega⟩) KX2_init IX2_init rfl rfl rfl rfl rfl PX2_init rfl rfl rfl rfl ?_
  have w2 := zW_put (zW_new w1 (zwf_new wf) 9 0 (zLc 0 t0 0) 3) (r := 8) (i := 0) (Or.inl (Or.inr ⟨rfl, rfl⟩)) (.inr (3, [.ref h.2.1, .ref (g2.2.1 + 1)]))
  refine z_putF (show _ = some (zWc [.ref h.2.1, .ref g1.2.1, .null, .null, .null, .null]) from w2.1 0 0 (Or.inl (Or.inl (Or.inl (Or.inl (Or.inl (Or.inl (Or.inl (Or.inl ⟨rfl, rfl⟩))))))))) rfl rfl rfl rfl rfl rfl rfl rfl (by simp) ?_
  have w3 := zW_put w2 (r := 0) (i := 0) (Or.inl (Or.inl (Or.inl (Or.inl (Or.inl (Or.inl (Or.inl (Or.inl ⟨rfl, rfl⟩)))))))) (zWc [.ref h.2.1, .ref g1.2.1, .ref g2.2.1, .null, .null, .null])
  refine z_wf fun wfA _ => ?_
  refine z_gen (P := fun g => zW (u2 (u2 (u2 (u2 (u2 (u2 (u2 (zD0 t0 o) 1 0 h.2.1) 2 0 (h.2.1 + 1)) 3 0 (h.2.1 + 2)) 4 0 g1.2.1) 5 0 (g1.2.1 + 1)) 8 0 g2.2.1) 9 0 (g2.2.1 + 1)) (zVa (zVa (zVa (zVa (zVa (zVa (zVa (zV0 F) 1 0) 2 0) 3 0) 4 0) 5 0) 8 0) 9 0) (u2 (u2 (u2 (u2 (u2 (u2 (u2 (u2 (u2 (u2 (u2 (u2 (u2 (zT0 F (zWc [.null, .null, .null, .null, .null, .null])) 1 0 (.inr (7, [.int 0, .int 0, .int 0, .null, .null]))) 2 0 (zI X (sNn p) (fun _ => 0))) 3 0 (zI X (sNn p / 8) (sIniG (sNn p) (sNn p / 8)))) 1 0 (.inr (7, [.int (nI (sNn p)), .int (nI (sNn p / 8)), .int (nI (sNn p / 4)), .ref (h.2.1 + 1), .ref (h.2.1 + 1 + 1)]))) 0 0 (zWc [.ref h.2.1, .null, .null, .null, .null, .null])) 4 0 (.inr (4, [.null, .null]))) 5 0 (zLc 0 t0 0)) 4 0 (.inr (4, [.ref h.2.1, .ref (g1.2.1 + 1)]))) 0 0 (zWc [.ref h.2.1, .ref g1.2.1, .null, .null, .null, .null])) 8 0 (.inr (3, [.null, .null]))) 9 0 (zLc 0 t0 0)) 8 0 (.inr (3, [.ref h.2.1, .ref (g2.2.1 + 1)]))) 0 0 (zWc [.ref h.2.1, .ref g1.2.1, .ref g2.2.1, .null, .null, .null])) g ∧ (∀ a e, g.1 a = some e → a < g.2.1) ∧ g.2.1 = h.2.1 + 7 ∧ g.2.2 = h.2.2 + 5 + sNn p + sNn p / 8 + 2 + 3 + 2 + 3) ⟨w3, fun a e he => (wfA a e he).2, ?_, ?_⟩ ?_
  · show g2.2.1 + 1 + 1 = _; omega
  · show g2.2.2 + 2 + 3 = _; omega
  rintro g3 ⟨w, wf, n1, n2⟩
  refine z_go 90 rfl ?_
  refine z_new 5 (by decide) rfl rfl zn_5 ⟨by show g3.2.1 + 1 ≤ _; omega, by show g3.2.2 + 8 ≤ _; omega⟩ ?_
  have w1 := zW_new w wf 15 0 (.inr (5, [.null, .int 0, .null, .null, .null, .int 0, .int 0, .int 0])) 8
  refine z_go 90 rfl ?_
  refine z_get (show _ = some (zWc [.ref h.2.1, .ref g1.2.1, .ref g2.2.1, .null, .null, .null]) from w1.1 0 0 (Or.inl (Or.inl (Or.inl (Or.inl (Or.inl (Or.inl (Or.inl (Or.inl (Or.inl ⟨rfl, rfl⟩)))))))))) rfl rfl rfl rfl ?_
  refine z_go 90 rfl ?_
  refine z_cI (c_initH G hD (show g3.2.1 < g3.2.1 + 1 by omega) (show h.2.1 ≠ g3.2.1 by omega) (show h.2.1 < g3.2.1 + 1 by omega) (w1.1 1 0 (Or.inl (Or.inl (Or.inl (Or.inl (Or.inl (Or.inl (Or.inl (Or.inr ⟨rfl, rfl⟩))))))))) (znew_at _ _ _) ⟨by show g3.2.1 + 1 + 3 ≤ _; omega, by show g3.2.2 + 8 + 610 ≤ _; omega⟩) KX4_init IX4_init rfl rfl rfl rfl rfl PX4_init rfl rfl rfl rfl ?_
  have w2 := zW_put (zW_new (zW_new (zW_new w1 (zwf_new wf) 16 0 (zLc 0 t0 0) 3) (zwf_new (zwf_new wf)) 19 0 (zLc 0 t0 0) 3) (zwf_new (zwf_new (zwf_new wf))) 21 0 (zBk X ((sNn p - sNn p / 4) / 16) (fun _ => none)) ((sNn p - sNn p / 4) / 16)) (r := 15) (i := 0) (Or.inl (Or.inl (Or.inl (Or.inr ⟨rfl, rfl⟩)))) (.inr (5, [.ref h.2.1, .int (nI (sQq p q)), .ref (g3.2.1 + 1), .ref (g3.2.1 + 1 + 1), .ref (g3.2.1 + 1 + 2), .int 0, .int 0, .int 0]))
  refine z_putF (show _ = some (zWc [.ref h.2.1, .ref g1.2.1, .ref g2.2.1, .null, .null, .null]) from w2.1 0 0 (Or.inl (Or.inl (Or.inl (Or.inl (Or.inl (Or.inl (Or.inl (Or.inl (Or.inl (Or.inl (Or.inl (Or.inl ⟨rfl, rfl⟩))))))))))))) rfl rfl rfl rfl rfl rfl rfl rfl (by simp) ?_
  have w3 := zW_put w2 (r := 0) (i := 0) (Or.inl (Or.inl (Or.inl (Or.inl (Or.inl (Or.inl (Or.inl (Or.inl (Or.inl (Or.inl (Or.inl (Or.inl ⟨rfl, rfl⟩)))))))))))) (zWc [.ref h.2.1, .ref g1.2.1, .ref g2.2.1, .ref g3.2.1, .null, .null])
  refine z_wf fun wfA _ => ?_
  refine z_gen (P := fun g => zW (u2 (u2 (u2 (u2 (u2 (u2 (u2 (u2 (u2 (u2 (u2 (zD0 t0 o) 1 0 h.2.1) 2 0 (h.2.1 + 1)) 3 0 (h.2.1 + 2)) 4 0 g1.2.1) 5 0 (g1.2.1 + 1)) 8 0 g2.2.1) 9 0 (g2.2.1 + 1)) 15 0 g3.2.1) 16 0 (g3.2.1 + 1)) 19 0 (g3.2.1 + 2)) 21 0 (g3.2.1 + 3)) (zVa (zVa (zVa (zVa (zVa (zVa (zVa (zVa (zVa (zVa (zVa (zV0 F) 1 0) 2 0) 3 0) 4 0) 5 0) 8 0) 9 0) 15 0) 16 0) 19 0) 21 0) (u2 (u2 (u2 (u2 (u2 (u2 (u2 (u2 (u2 (u2 (u2 (u2 (u2 (u2 (u2 (u2 (u2 (u2 (u2 (zT0 F (zWc [.null, .null, .null, .null, .null, .null])) 1 0 (.inr (7, [.int 0, .int 0, .int 0, .null, .null]))) 2 0 (zI X (sNn p) (fun _ => 0))) 3 0 (zI X (sNn p / 8) (sIniG (sNn p) (sNn p / 8)))) 1 0 (.inr (7, [.int (nI (sNn p)), .int (nI (sNn p / 8)), .int (nI (sNn p / 4)), .ref (h.2.1 + 1), .ref (h.2.1 + 1 + 1)]))) 0 0 (zWc [.ref h.2.1, .null, .null, .null, .null, .null])) 4 0 (.inr (4, [.null, .null]))) 5 0 (zLc 0 t0 0)) 4 0 (.inr (4, [.ref h.2.1, .ref (g1.2.1 + 1)]))) 0 0 (zWc [.ref h.2.1, .ref g1.2.1, .null, .null, .null, .null])) 8 0 (.inr (3, [.null, .null]))) 9 0 (zLc 0 t0 0)) 8 0 (.inr (3, [.ref h.2.1, .ref (g2.2.1 + 1)]))) 0 0 (zWc [.ref h.2.1, .ref g1.2.1, .ref g2.2.1, .null, .null, .null])) 15 0 (.inr (5, [.null, .int 0, .null, .null, .null, .int 0, .int 0, .int 0]))) 16 0 (zLc 0 t0 0)) 19 0 (zLc 0 t0 0)) 21 0 (zBk X ((sNn p - sNn p / 4) / 16) (fun _ => none))) 15 0 (.inr (5, [.ref h.2.1, .int (nI (sQq p q)), .ref (g3.2.1 + 1), .ref (g3.2.1 + 1 + 1), .ref (g3.2.1 + 1 + 2), .int 0, .int 0, .int 0]))) 0 0 (zWc [.ref h.2.1, .ref g1.2.1, .ref g2.2.1, .ref g3.2.1, .null, .null])) g ∧ (∀ a e, g.1 a = some e → a < g.2.1) ∧ g.2.1 = h.2.1 + 11 ∧ g.2.2 = h.2.2 + 5 + sNn p + sNn p / 8 + 2 + 3 + 2 + 3 + 8 + 3 + 3 + ((sNn p - sNn p / 4) / 16)) ⟨w3, fun a e he => (wfA a e he).2, ?_, ?_⟩ ?_
  · show g3.2.1 + 1 + 1 + 1 + 1 = _; omega
  · show g3.2.2 + 8 + 3 + 3 + ((sNn p - sNn p / 4) / 16) = _; omega
  rintro g4 ⟨w, wf, n1, n2⟩
  refine z_go 90 rfl ?_
  refine z_new 6 (by decide) rfl rfl zn_6 ⟨by show g4.2.1 + 1 ≤ _; omega, by show g4.2.2 + 5 ≤ _; omega⟩ ?_
  have w1 := zW_new w wf 22 0 (.inr (6, [.null, .null, .null, .null, .null])) 5
  refine z_go 90 rfl ?_
  refine z_get (show _ = some (zWc [.ref h.2.1, .ref g1.2.1, .ref g2.2.1, .ref g3.2.1, .null, .null]) from w1.1 0 0 (Or.inl (Or.inl (Or.inl (Or.inl (Or.inl (Or.inl (Or.inl (Or.inl (Or.inl (Or.inl (Or.inl (Or.inl (Or.inl ⟨rfl, rfl⟩)))))))))))))) rfl rfl rfl rfl ?_
  refine z_go 90 rfl ?_
  refine z_get (show _ = some (zWc [.ref h.2.1, .ref g1.2.1, .ref g2.2.1, .ref g3.2.1, .null, .null]) from w1.1 0 0 (Or.inl (Or.inl (Or.inl (Or.inl (Or.inl (Or.inl (Or.inl (Or.inl (Or.inl (Or.inl (Or.inl (Or.inl (Or.inl ⟨rfl, rfl⟩)))))))))))))) rfl rfl rfl rfl ?_
  refine z_go 90 rfl ?_
  refine z_get (show _ = some (zWc [.ref h.2.1, .ref g1.2.1, .ref g2.2.1, .ref g3.2.1, .null, .null]) from w1.1 0 0 (Or.inl (Or.inl (Or.inl (Or.inl (Or.inl (Or.inl (Or.inl (Or.inl (Or.inl (Or.inl (Or.inl (Or.inl (Or.inl ⟨rfl, rfl⟩)))))))))))))) rfl rfl rfl rfl ?_
  refine z_go 90 rfl ?_
  refine z_get (show _ = some (zWc [.ref h.2.1, .ref g1.2.1, .ref g2.2.1, .ref g3.2.1, .null, .null]) from w1.1 0 0 (Or.inl (Or.inl (Or.inl (Or.inl (Or.inl (Or.inl (Or.inl (Or.inl (Or.inl (Or.inl (Or.inl (Or.inl (Or.inl ⟨rfl, rfl⟩)))))))))))))) rfl rfl rfl rfl ?_
  refine z_go 90 rfl ?_
  refine z_cI (c_initLs G hD (show g4.2.1 < g4.2.1 + 1 by omega) (znew_at _ _ _) ⟨by show g4.2.1 + 1 + 1 ≤ _; omega, by show g4.2.2 + 5 + 3 ≤ _; omega⟩) KX5_init IX5_init rfl rfl rfl rfl rfl PX5_init rfl rfl rfl rfl ?_
  have w2 := zW_put (zW_new w1 (zwf_new wf) 23 0 (zLc 0 t0 0) 3) (r := 22) (i := 0) (Or.inl (Or.inr ⟨rfl, rfl⟩)) (.inr (6, [.ref h.2.1, .ref g1.2.1, .ref g2.2.1, .ref g3.2.1, .ref (g4.2.1 + 1)]))
  refine z_putF (show _ = some (zWc [.ref h.2.1, .ref g1.2.1, .ref g2.2.1, .ref g3.2.1, .null, .null]) from w2.1 0 0 (Or.inl (Or.inl (Or.inl (Or.inl (Or.inl (Or.inl (Or.inl (Or.inl (Or.inl (Or.inl (Or.inl (Or.inl (Or.inl (Or.inl ⟨rfl, rfl⟩))))))))))))))) rfl rfl rfl rfl rfl rfl rfl rfl (by simp) ?_
  have w3 := zW_put w2 (r := 0) (i := 0) (Or.inl (Or.inl (Or.inl (Or.inl (Or.inl (Or.inl (Or.inl (Or.inl (Or.inl (Or.inl (Or.inl (Or.inl (Or.inl (Or.inl ⟨rfl, rfl⟩)))))))))))))) (zWc [.ref h.2.1, .ref g1.2.1, .ref g2.2.1, .ref g3.2.1, .ref g4.2.1, .null])
  refine z_wf fun wfA _ => ?_
  refine z_gen (P := fun g => zW (u2 (u2 (u2 (u2 (u2 (u2 (u2 (u2 (u2 (u2 (u2 (u2 (u2 (zD0 t0 o) 1 0 h.2.1) 2 0 (h.2.1 + 1)) 3 0 (h.2.1 + 2)) 4 0 g1.2.1) 5 0 (g1.2.1 + 1)) 8 0 g2.2.1) 9 0 (g2.2.1 + 1)) 15 0 g3.2.1) 16 0 (g3.2.1 + 1)) 19 0 (g3.2.1 + 2)) 21 0 (g3.2.1 + 3)) 22 0 g4.2.1) 23 0 (g4.2.1 + 1)) (zVa (zVa (zVa (zVa (zVa (zVa (zVa (zVa (zVa (zVa (zVa (zVa (zVa (zV0 F) 1 0) 2 0) 3 0) 4 0) 5 0) 8 0) 9 0) 15 0) 16 0) 19 0) 21 0) 22 0) 23 0) (u2 (u2 (u2 (u2 (u2 (u2 (u2 (u2 (u2 (u2 (u2 (u2 (u2 (u2 (u2 (u2 (u2 (u2 (u2 (u2 (u2 (u2 (u2 (zT0 F (zWc [.null, .null, .null, .null, .null, .null])) 1 0 (.inr (7, [.int 0, .int 0, .int 0, .null, .null]))) 2 0 (zI X (sNn p) (fun _ => 0))) 3 0 (zI X (sNn p / 8) (sIniG (sNn p) (sNn p / 8)))) 1 0 (.inr (7, [.int (nI (sNn p)), .int (nI (sNn p / 8)), .int (nI (sNn p / 4)), .ref (h.2.1 + 1), .ref (h.2.1 + 1 + 1)]))) 0 0 (zWc [.ref h.2.1, .null, .null, .null, .null, .null])) 4 0 (.inr (4, [.null, .null]))) 5 0 (zLc 0 t0 0)) 4 0 (.inr (4, [.ref h.2.1, .ref (g1.2.1 + 1)]))) 0 0 (zWc [.ref h.2.1, .ref g1.2.1, .null, .null, .null, .null])) 8 0 (.inr (3, [.null, .null]))) 9 0 (zLc 0 t0 0)) 8 0 (.inr (3, [.ref h.2.1, .ref (g2.2.1 + 1)]))) 0 0 (zWc [.ref h.2.1, .ref g1.2.1, .ref g2.2.1, .null, .null, .null])) 15 0 (.inr (5, [.null, .int 0, .null, .null, .null, .int 0, .int 0, .int 0]))) 16 0 (zLc 0 t0 0)) 19 0 (zLc 0 t0 0)) 21 0 (zBk X ((sNn p - sNn p / 4) / 16) (fun _ => none))) 15 0 (.inr (5, [.ref h.2.1, .int (nI (sQq p q)), .ref (g3.2.1 + 1), .ref (g3.2.1 + 1 + 1), .ref (g3.2.1 + 1 + 2), .int 0, .int 0, .int 0]))) 0 0 (zWc [.ref h.2.1, .ref g1.2.1, .ref g2.2.1, .ref g3.2.1, .null, .null])) 22 0 (.inr (6, [.null, .null, .null, .null, .null]))) 23 0 (zLc 0 t0 0)) 22 0 (.inr (6, [.ref h.2.1, .ref g1.2.1, .ref g2.2.1, .ref g3.2.1, .ref (g4.2.1 + 1)]))) 0 0 (zWc [.ref h.2.1, .ref g1.2.1, .ref g2.2.1, .ref g3.2.1, .ref g4.2.1, .null])) g ∧ (∀ a e, g.1 a = some e → a < g.2.1) ∧ g.2.1 = h.2.1 + 13 ∧ g.2.2 = h.2.2 + 5 + sNn p + sNn p / 8 + 2 + 3 + 2 + 3 + 8 + 3 + 3 + ((sNn p - sNn p / 4) / 16) + 5 + 3) ⟨w3, fun a e he => (wfA a e he).2, ?_, ?_⟩ ?_
  · show g4.2.1 + 1 + 1 = _; omega
  · show g4.2.2 + 5 + 3 = _; omega
  rintro g5 ⟨w, wf, n1, n2⟩
  refine z_go 90 rfl ?_
  refine z_new 0 (by decide) rfl rfl zn_0 ⟨by show g5.2.1 + 1 ≤ _; omega, by show g5.2.2 + 3 ≤ _; omega⟩ ?_
  refine z_go 90 rfl ?_
  refine z_cI (c_initA G hD (znew_at _ _ _)) KJx4a65c_init_da8c8 IJx4a65c_init_da8c8 rfl rfl rfl rfl rfl PJx4a65c_init_da8c8 rfl rfl rfl rfl ?_
  rw [zset_new]
  have w2 := zW_new w wf 25 0 (zLc 0 t0 0) 3
  refine z_putF (show _ = some (zWc [.ref h.2.1, .ref g1.2.1, .ref g2.2.1, .ref g3.2.1, .ref g4.2.1, .null]) from w2.1 0 0 (Or.inl (Or.inl (Or.inl (Or.inl (Or.inl (Or.inl (Or.inl (Or.inl (Or.inl (Or.inl (Or.inl (Or.inl (Or.inl (Or.inl (Or.inl ⟨rfl, rfl⟩)))))))))))))))) rfl rfl rfl rfl rfl rfl rfl rfl (by simp) ?_
  have w3 := zW_put w2 (r := 0) (i := 0) (Or.inl (Or.inl (Or.inl (Or.inl (Or.inl (Or.inl (Or.inl (Or.inl (Or.inl (Or.inl (Or.inl (Or.inl (Or.inl (Or.inl (Or.inl ⟨rfl, rfl⟩))))))))))))))) (zWc [.ref h.2.1, .ref g1.2.1, .ref g2.2.1, .ref g3.2.1, .ref g4.2.1, .ref g5.2.1])
  exact z_vret rfl rfl ⟨rfl, u2 (u2 (u2 (u2 (u2 (u2 (u2 (u2 (u2 (u2 (u2 (u2 (u2 (u2 (zD0 t0 o) 1 0 h.2.1) 2 0 (h.2.1 + 1)) 3 0 (h.2.1 + 2)) 4 0 g1.2.1) 5 0 (g1.2.1 + 1)) 8 0 g2.2.1) 9 0 (g2.2.1 + 1)) 15 0 g3.2.1) 16 0 (g3.2.1 + 1)) 19 0 (g3.2.1 + 2)) 21 0 (g3.2.1 + 3)) 22 0 g4.2.1) 23 0 (g4.2.1 + 1)) 25 0 g5.2.1, _, _, zSt_ini hD w3 (by show g5.2.1 + 1 ≤ _; omega) (by show g5.2.2 + 3 ≤ _; omega) rfl (fun _ => rfl) (fun a e he => ⟨Or.inl (Or.inl (Or.inl (Or.inl (Or.inl (Or.inl (Or.inl (Or.inl (Or.inl (Or.inl (Or.inl (Or.inl (Or.inl (Or.inl (Or.inr ⟨rfl, e, he⟩)))))))))))))), by show (F a).getD zR0 = e; rw [he]; rfl⟩) ⟨rfl, rfl, rfl, rfl, rfl, rfl⟩ ⟨Or.inl (Or.inl (Or.inl (Or.inl (Or.inl (Or.inl (Or.inl (Or.inl (Or.inl (Or.inl (Or.inl (Or.inl (Or.inl (Or.inl (Or.inl ⟨rfl, rfl⟩)))))))))))))), rfl⟩ ⟨Or.inl (Or.inl (Or.inl (Or.inl (Or.inl (Or.inl (Or.inl (Or.inl (Or.inl (Or.inl (Or.inl (Or.inl (Or.inl (Or.inr ⟨rfl, rfl⟩))))))))))))), rfl⟩ ⟨Or.inl (Or.inl (Or.inl (Or.inl (Or.inl (Or.inl (Or.inl (Or.inl (Or.inl (Or.inl (Or.inl (Or.inl (Or.inr ⟨rfl, rfl⟩)))))))))))), rfl⟩ ⟨Or.inl (Or.inl (Or.inl (Or.inl (Or.inl (Or.inl (Or.inl (Or.inl (Or.inl (Or.inl (Or.inl (Or.inr ⟨rfl, rfl⟩))))))))))), rfl⟩ ⟨Or.inl (Or.inl (Or.inl (Or.inl (Or.inl (Or.inl (Or.inl (Or.inl (Or.inl (Or.inl (Or.inr ⟨rfl, rfl⟩)))))))))), rfl⟩ ⟨Or.inl (Or.inl (Or.inl (Or.inl (Or.inl (Or.inl (Or.inl (Or.inl (Or.inl (Or.inr ⟨rfl, rfl⟩))))))))), rfl⟩ ⟨Or.inl (Or.inl (Or.inl (Or.inl (Or.inl (Or.inl (Or.inl (Or.inl (Or.inr ⟨rfl, rfl⟩)))))))), rfl⟩ ⟨Or.inl (Or.inl (Or.inl (Or.inl (Or.inl (Or.inl (Or.inl (Or.inr ⟨rfl, rfl⟩))))))), rfl⟩ ⟨Or.inl (Or.inl (Or.inl (Or.inl (Or.inl (Or.inl (Or.inr ⟨rfl, rfl⟩)))))), rfl⟩ ⟨Or.inl (Or.inl (Or.inl (Or.inl (Or.inl (Or.inr ⟨rfl, rfl⟩))))), rfl⟩ ⟨Or.inl (Or.inl (Or.inl (Or.inl (Or.inr ⟨rfl, rfl⟩)))), rfl⟩ ⟨Or.inl (Or.inl (Or.inl (Or.inr ⟨rfl, rfl⟩))), rfl⟩ ⟨Or.inl (Or.inl (Or.inr ⟨rfl, rfl⟩)), rfl⟩ ⟨Or.inl (Or.inr ⟨rfl, rfl⟩), rfl⟩ ⟨Or.inr ⟨rfl, rfl⟩, rfl⟩⟩
end ZWD
