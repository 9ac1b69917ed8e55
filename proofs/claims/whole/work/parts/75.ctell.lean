abbrev zRc (row : Nat → Int32) : va_E := .inr (9, [.int (row 0), .int (row 1), .int (row 2), .int (row 3), .int (row 4), .int (row 5), .int (row 6), .int (row 7), .int (row 8), .int (row 9)])
theorem zRc_c {a b : Nat → Int32} (e : ∀ j, j < 10 → a j = b j) : zRc a = zRc b := by
  unfold zRc
  rw [e 0 (by decide), e 1 (by decide), e 2 (by decide), e 3 (by decide), e 4 (by decide), e 5 (by decide), e 6 (by decide), e 7 (by decide), e 8 (by decide), e 9 (by decide)]
theorem zwf_new {h : zHp} {e : va_E} {k : Nat} (wf : ∀ a e, h.1 a = some e → a < h.2.1) : ∀ a e', (znew h e k).1 a = some e' → a < (znew h e k).2.1 := by
  intro a e' ha
  show a < h.2.1 + 1
  by_cases c : a = h.2.1
  · omega
  · rw [znew_ne _ _ _ c] at ha
    have := wf a e' ha
    omega
section ZTL
variable {X : zCx} {F : Nat → Option va_E} {o p q : Nat} {S : zS} {D : Nat → Nat → Nat} {W : Nat → Nat → Int32} {K : Nat → Nat → Nat} {h : zHp} {cc : Nat}
theorem zSt_tell (R : zSt X F o S D W K h p q) (wf : ∀ a e, h.1 a = some e → a < h.2.1) (row : Nat → Int32) (hn : sN S 27 0 < 512) : ∃ D' W' K', zSt X F o (sRow (zV S 27 (fun _ => nI (sN S 27 0 + 1))) (10 * sN S 27 0) row) D' W' K' (zPush X (znew h (zRc row) 10) (D 25 0) (D 26 0) (W 25 0 + 1) (sN S 27 0) (K 26 0) (zes S D K 25 0) h.2.1) (p + 2) (q + 2000) := by
  have A := R.1.2.2 25 0 (Or.inl ⟨rfl, by decide⟩)
  have hb := R.2.2.2.2
  obtain ⟨n, en⟩ : ∃ n, n = sN S 27 0 := ⟨_, rfl⟩
  rw [← en] at hn ⊢
  obtain ⟨S', eS⟩ : ∃ S', S' = sRow (zV S 27 (fun _ => nI (n + 1))) (10 * n) row := ⟨_, rfl⟩
  have A2 : n ≤ K 26 0 := by rw [en]; exact A.2.1
  have A3 : K 26 0 ≤ 1600 := A.2.2
  obtain ⟨d', cap', hdc, w2⟩ := zW_push (X := X) (zW_new (zSt_W R) wf 27 n (zRc row) 10) (zwf_new wf) (r := 25) (i := 0) (n := n) (cap := K 26 0) (b := h.2.1) (mc := W 25 0 + 1) (g := zes S D K 25 0) (Or.inl (Or.inl ⟨rfl, by decide⟩)) (fun c => Or.inl (Or.inl ⟨rfl, c⟩)) A2 (fun j hj => zes_none (by rw [en] at hj; exact hj))
  have hcap : n + 1 ≤ cap' ∧ cap' ≤ 1600 := by
    rcases hdc with ⟨c1, c2, c3, c4⟩ | ⟨c1, c2, c3, c4⟩
    · omega
    · have := zgrow_l (cap := K 26 0) (by omega)
      omega
  have e27 : sN S' 27 0 = n + 1 := by
    rw [eS]
    exact n_toNat (by omega)
  rw [← eS]
  have s26 : ∀ i, S' 26 i = if 10 * n ≤ i ∧ i < 10 * n + 10 then row (i - 10 * n) else S 26 i := fun i => by rw [eS]; rfl
  have hS : ∀ k, zno [26, 27] k → S' k = S k := fun k ⟨a, b, _⟩ => by
    rw [eS]
    simp only [sRow, zV, a, b]
  refine ⟨u2 (u2 D 27 n h.2.1) 26 0 d', u2 W 25 0 (W 25 0 + 1), u2 K 26 0 cap', zSt_mk [26, 27] [26, 27] [25] [26] R w2 hS (fun k ⟨a, b, _⟩ => by simp only [u2, a, b]) (fun k ⟨a, _⟩ => by simp only [u2, a]) (fun k ⟨a, _⟩ => by simp only [u2, a]) (zK1_u rfl (zK1_u rfl (zK1_u rfl (zK1_a (zK1_a zK1_r))))) (fun r i h28 hc hv => ?_) (fun r i h28 hc hl => ?_) rfl ?_ ?_⟩
  · rcases (by decide : ∀ r, r < 28 → zhk [26, 27] [26, 27] [25] [26] r = false → r = 25 ∨ r = 26 ∨ r = 27) r h28 hc with rfl | rfl | rfl
    · obtain ⟨rfl, -⟩ := id hv
      refine ⟨Or.inl (Or.inl (Or.inl ⟨rfl, by decide⟩)), ?_⟩
      rw [u2_at]
      show zLc (W 25 0 + 1) d' (n + 1) = zLc (W 25 0 + 1) d' (sN S' 27 0)
      rw [e27]
    · obtain ⟨rfl, -⟩ := id hv
      refine ⟨Or.inr ⟨rfl, rfl⟩, ?_⟩
      show zOb X cap' (va_up (zes S D K 25 0) n (some h.2.1)) = zOb X cap' (zes S' (u2 (u2 D 27 n h.2.1) 26 0 d') (u2 K 26 0 cap') 25 0)
      refine congrArg (zOb X cap') (zes_push (S := S) (D := D) (K := K) (r := 25) (i := 0) (S' := S') (D' := u2 (u2 D 27 n h.2.1) 26 0 d') (K' := u2 K 26 0 cap') en.symm e27 (fun j hj => ?_) ?_)
      · show u2 D 27 n h.2.1 27 j = D 27 j
        exact u2_ni (by omega)
      · exact u2_at D 27 n h.2.1
    · have hv' : i < sN S' 27 0 := hv
      rw [e27] at hv'
      by_cases c : i = n
      · subst c
        refine ⟨Or.inl (Or.inr ⟨rfl, rfl⟩), ?_⟩
        show u2 _ 27 i (zRc row) 27 i = zRc (fun j => S' 26 (10 * i + j))
        rw [u2_at]
        exact zRc_c (fun j hj => by rw [s26, if_pos (by omega), show 10 * i + j - 10 * i = j by omega])
      · have hv3 : i < sN S 27 0 := by omega
        refine ⟨Or.inl (Or.inl (Or.inl hv3)), ?_⟩
        show u2 (zTF X F S D W K) 27 n (zRc row) 27 i = zRc (fun j => S' 26 (10 * i + j))
        rw [u2_ni (by omega)]
        show zRc (fun j => S 26 (10 * i + j)) = _
        exact zRc_c (fun j hj => by rw [s26, if_neg (by omega)])
  · rcases (by decide : ∀ r, r < 28 → zhk [26, 27] [26, 27] [25] [26] r = false → r = 25 ∨ r = 26 ∨ r = 27) r h28 hc with rfl | rfl | rfl
    · obtain ⟨rfl, -⟩ : i = 0 ∧ True := by rcases hl with ⟨z, -⟩ | ⟨z, -⟩ <;> first | exact ⟨z, trivial⟩ | omega
      exact ⟨fun z => absurd z (by show cap' ≠ 0; omega), by show sN S' 27 0 ≤ cap'; omega, hcap.2⟩
    · rcases hl with ⟨-, z⟩ | ⟨z, -⟩ <;> omega
    · rcases hl with ⟨-, z⟩ | ⟨z, -⟩ <;> omega
  · have e23 : sN S' 23 0 = sN S 23 0 := by rw [eS]; rfl
    rw [e23]
    exact R.2.2.1
  · have k24 : u2 K 26 0 cap' 24 0 = K 24 0 := rfl
    rw [k24]
    rcases hdc with ⟨c1, c2, c3, c4⟩ | ⟨c1, c2, c3, c4⟩
    · exact ⟨Nat.le_trans (Nat.le_of_eq (congrArg Prod.fst c4)) (by show h.2.1 + 1 ≤ _; omega), Nat.le_trans (Nat.le_of_eq (congrArg Prod.snd c4)) (by show h.2.2 + 10 ≤ _; omega)⟩
    · exact ⟨Nat.le_trans (Nat.le_of_eq (congrArg Prod.fst c4)) (by show h.2.1 + 1 + 1 ≤ _; omega), Nat.le_trans (Nat.le_of_eq (congrArg Prod.snd c4)) (by show h.2.2 + 10 + zgrow (K 26 0) ≤ _; omega)⟩
end ZTL
