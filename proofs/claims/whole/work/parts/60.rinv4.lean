theorem sEnter_inv {S : zS} {c : Nat} (I : sInv S c) (hc : c < 512) (p q r u : Int32) : sInv (sEnter S p q r u).2 (c + 1) := by
  unfold sEnter
  by_cases h : sBadE p q r u
  · rw [zif_pos h]; exact sInv_T1 I hc 1 (by decide)
  · rw [zif_neg h]
    unfold sBadE at h
    have d1 : 0 ≤ p.toInt ∧ p.toInt ≤ 128 := Classical.byContradiction fun z => h (Or.inl z)
    have d2 : 0 ≤ q.toInt ∧ q.toInt ≤ 128 := Classical.byContradiction fun z => h (Or.inr (Or.inl z))
    have d3 : 0 ≤ r.toInt ∧ r.toInt ≤ 128 := Classical.byContradiction fun z => h (Or.inr (Or.inr (Or.inl z)))
    have d4 : 0 ≤ u.toInt ∧ u.toInt ≤ 128 := Classical.byContradiction fun z => h (Or.inr (Or.inr (Or.inr (Or.inl z))))
    have d5 : ¬ p ||| q ||| r ||| u = 0 := fun z => h (Or.inr (Or.inr (Or.inr (Or.inr z))))
    obtain ⟨a, rfl, ha⟩ := i_nat d1.1
    obtain ⟨b, rfl, hb⟩ := i_nat d2.1
    obtain ⟨e, rfl, he⟩ := i_nat d3.1
    obtain ⟨f, rfl, hf⟩ := i_nat d4.1
    rw [i_nI ha] at d1 ⊢
    rw [i_nI hb] at d2 ⊢
    rw [i_nI he] at d3 ⊢
    rw [i_nI hf] at d4 ⊢
    rw [Int.toNat_natCast, Int.toNat_natCast, Int.toNat_natCast, Int.toNat_natCast]
    refine sEnterB_inv (sInv_T1 I hc 0 (by decide)) (fun k => by
      unfold sSz
      split <;> omega) ?_
    have hp : ∀ n, n ≠ 0 → 0 < sSp n := fun n hn => by unfold sSp sPad; rw [if_neg hn]; omega
    have hz : zSum (fun i => sSp (sSz a b e f i)) 4 = 0 + sSp a + sSp b + sSp e + sSp f := rfl
    rw [hz]
    by_cases ca : a = 0
    · by_cases cb : b = 0
      · by_cases ce : e = 0
        · by_cases cf : f = 0
          · subst ca cb ce cf
            exact absurd rfl d5
          · have := hp f cf; omega
        · have := hp e ce; omega
      · have := hp b cb; omega
    · have := hp a ca; omega
