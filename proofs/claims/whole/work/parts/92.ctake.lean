section ZTB
variable {X : zCx} {F : Nat → Option va_E} {o p q : Nat} {S : zS} {D : Nat → Nat → Nat} {W : Nat → Nat → Int32} {K : Nat → Nat → Nat} {h : zHp} {cc : Nat}
def sHol0 (S : zS) (b : Nat) (site : Int32) : zS := zV (zV (zV (zV S 18 (upd (S 18) b 1)) 22 (upd (S 22) b site)) 25 (fun _ => nI (sN S 25 0 + 1))) 24 (upd (S 24) (sN S 25 0) (nI b))
theorem sHol0_live {S : zS} {b : Nat} {site : Int32} (hb : b < sN S 23 0) (hl : sN S 18 b = 0) : sLive S (sN S 23 0) = sLive (sHol0 S b site) (sN S 23 0) + 1 ∧ sLiveB S (sN S 23 0) = sLiveB (sHol0 S b site) (sN S 23 0) + sN S 20 b := by
  have e18 : ∀ i, sN (sHol0 S b site) 18 i = if i = b then 1 else sN S 18 i := fun i => sN_upd (x := 1) (by omega)
  constructor
  · have := zSum_u (g := fun i => if sN S 18 i = 0 then 1 else 0) (g' := fun i => if sN (sHol0 S b site) 18 i = 0 then 1 else 0) hb (fun i hi hne => by
      have : sN (sHol0 S b site) 18 i = sN S 18 i := by rw [e18, if_neg hne]
      rw [this])
    rw [if_pos hl, if_neg (by rw [e18, if_pos rfl]; omega)] at this
    exact this.symm
  · have := zSum_u (g := fun i => if sN S 18 i = 0 then sN S 20 i else 0) (g' := fun i => if sN (sHol0 S b site) 18 i = 0 then sN (sHol0 S b site) 20 i else 0) hb (fun i hi hne => by
      have : sN (sHol0 S b site) 18 i = sN S 18 i := by rw [e18, if_neg hne]
      rw [this]
      rfl)
    rw [if_pos hl, if_neg (by rw [e18, if_pos rfl]; omega)] at this
    exact this.symm
theorem sHol0_HB {S : zS} {c b : Nat} {site : Int32} (I : sInv S c) (hb : b < sN S 23 0) : sHB (sHol0 S b site) = sHB S + sN S 20 b := by
  have c3 := I.2.2.2.2.2.2.2.2.2.2.1
  have c1 := I.2.2.2.2.2.2.2.2.1
  have c2 := I.2.2.2.2.2.2.2.2.2.1
  have e25 : sN (sHol0 S b site) 25 0 = sN S 25 0 + 1 := n_toNat (by omega)
  have e24 : ∀ i, sN (sHol0 S b site) 24 i = if i = sN S 25 0 then b else sN S 24 i := fun i => sN_upd (by omega)
  unfold sHB
  rw [e25]
  show zSum _ (sN S 25 0) + sN (sHol0 S b site) 20 (sN (sHol0 S b site) 24 (sN S 25 0)) = _
  rw [e24, if_pos rfl]
  refine congrArg (· + sN S 20 b) (zSum_c (fun i hi => ?_))
  rw [e24, if_neg (by omega)]
  rfl
theorem zSt_hold (I : sInv S cc) (R : zSt X F o S D W K h p q) {b : Nat} {site : Int32} (hb : b < sN S 23 0) (hl : sN S 18 b = 0) (hq : sN S 25 0 < 512) {d' cap' : Nat} {mc : Int32} {h' : zHp} (hcap : sN S 25 0 + 1 ≤ cap' ∧ cap' ≤ 1600) (hb2 : h'.2.1 ≤ zB X + (p + 2) + K 24 0 ∧ h'.2.2 ≤ q + 2000 + 4 * K 24 0)
    (w : zW (u2 D 20 0 d') (zVa (zVF F S K) 20 0) (u2 (u2 (u2 (u2 (zTF X F S D W K) 18 b (zBc S b 1 site (W 100 b) (W 101 b))) 15 0 (zHc S D (sLive S (sN S 23 0) - 1) (sLiveB S (sN S 23 0) - sN S 20 b) (sHB S + sN S 20 b))) 20 0 (zOb X cap' (va_up (zes S D K 19 0) (sN S 25 0) (some (D 18 b))))) 19 0 (zLc mc d' (sN S 25 0 + 1))) h') :
    zSt X F o (sHol0 S b site) (u2 D 20 0 d') (u2 W 19 0 mc) (u2 K 20 0 cap') h' (p + 2) (q + 2000) := by
  have I9 := id I
  obtain ⟨I0, In, Ig, If, Ib, Iq, Ih, Im, c1, c2, c3, c4⟩ := id I
  obtain ⟨n, en⟩ : ∃ n, n = sN S 25 0 := ⟨_, rfl⟩
  have hlv := sHol0_live (site := site) hb hl
  have hHB := sHol0_HB (site := site) I hb
  obtain ⟨S', eS⟩ : ∃ S', S' = sHol0 S b site := ⟨_, rfl⟩
  have e18 : ∀ i, sN S' 18 i = if i = b then 1 else sN S 18 i := fun i => by
    rw [eS]
    exact sN_upd (x := 1) (by omega)
  have u22 : S' 22 = upd (S 22) b site := by rw [eS]; rfl
  have e25 : sN S' 25 0 = n + 1 := by
    rw [eS, en]
    exact n_toNat (by omega)
  have e24 : ∀ i, sN S' 24 i = if i = n then b else sN S 24 i := fun i => by
    rw [eS, en]
    exact sN_upd (by omega)
  have hS : ∀ k, zno [18, 22, 24, 25] k → S' k = S k := fun k ⟨a1, a2, a3, a4, _⟩ => by
    rw [eS]
    simp only [sHol0, zV, a1, a2, a3, a4]
  have z4 : ∀ k, Nat.beq k 18 = false → Nat.beq k 22 = false → Nat.beq k 24 = false → Nat.beq k 25 = false → S' k = S k := fun k a b c d => hS k ⟨a, b, c, d, trivial⟩
  have s23 : S' 23 = S 23 := z4 23 rfl rfl rfl rfl
  have s19 : S' 19 = S 19 := z4 19 rfl rfl rfl rfl
  have s20 : S' 20 = S 20 := z4 20 rfl rfl rfl rfl
  have s1 : S' 1 = S 1 := z4 1 rfl rfl rfl rfl
  have s2 : S' 2 = S 2 := z4 2 rfl rfl rfl rfl
  have s15 : S' 15 = S 15 := z4 15 rfl rfl rfl rfl
  have s16 : S' 16 = S 16 := z4 16 rfl rfl rfl rfl
  have s17 : S' 17 = S 17 := z4 17 rfl rfl rfl rfl
  have s21 : S' 21 = S 21 := z4 21 rfl rfl rfl rfl
  have a23 : sN S' 23 0 = sN S 23 0 := by unfold sN; rw [s23]
  have a2 : sN S' 2 0 = sN S 2 0 := by unfold sN; rw [s2]
  have a15 : ∀ i, sN S' 15 i = sN S 15 i := fun i => by unfold sN; rw [s15]
  have a16 : ∀ i, sN S' 16 i = sN S 16 i := fun i => by unfold sN; rw [s16]
  have a19 : ∀ i, sN S' 19 i = sN S 19 i := fun i => by unfold sN; rw [s19]
  have a20 : ∀ i, sN S' 20 i = sN S 20 i := fun i => by unfold sN; rw [s20]
  have a1 : sN S' 1 0 = sN S 1 0 := by unfold sN; rw [s1]
  rw [← eS] at hlv hHB ⊢
  rw [← en] at hcap w hq
  have aff : ∀ r, r < 28 → zhk [18, 22, 24, 25] [20] [19] [20] r = false → r = 15 ∨ r = 18 ∨ r = 19 ∨ r = 20 ∨ r = 21 := by decide
  refine zSt_mk [18, 22, 24, 25] [20] [19] [20] R w hS (fun k ⟨a, _⟩ => by simp only [u2, a]) (fun k ⟨a, _⟩ => by simp only [u2, a]) (fun k ⟨a, _⟩ => by simp only [u2, a]) (zK1_u rfl (zK1_u rfl (zK1_u rfl (zK1_u rfl (zK1_a zK1_r))))) (fun r j h28 hc hv => ?_) (fun r j h28 hc hl => ?_) rfl ?_ hb2
  · rcases aff r h28 hc with rfl | rfl | rfl | rfl | rfl
    · obtain ⟨rfl, -⟩ := id hv
      refine ⟨Or.inl (Or.inl ⟨rfl, by decide⟩), ?_⟩
      show zHc S D (sLive S (sN S 23 0) - 1) (sLiveB S (sN S 23 0) - sN S 20 b) (sHB S + sN S 20 b) = zHc S' D (sLive S' (sN S' 23 0)) (sLiveB S' (sN S' 23 0)) (sHB S')
      rw [a23, hHB, show sLive S' (sN S 23 0) = sLive S (sN S 23 0) - 1 by omega, show sLiveB S' (sN S 23 0) = sLiveB S (sN S 23 0) - sN S 20 b by omega]
      unfold zHc
      rw [a2]
    · have hv' : j < sN S' 23 0 := hv
      rw [a23] at hv'
      refine ⟨Or.inl (Or.inl hv'), ?_⟩
      show u2 _ 18 b (zBc S b 1 site (W 100 b) (W 101 b)) 18 j = (Sum.inr (1, zRgF 3 (nI j) (sN S' 15 j) (sN S' 16 j) (S' 21 j) (S' 22 j) [.int (S' 17 j), .int (nI (sN S' 19 j)), .int (nI (sN S' 20 j)), .int (nI (sN S' 18 j)), .int (W 100 j), .int (W 101 j)]) : va_E)
      rw [a15, a16, a19, a20, s17, s21, e18, u22]
      by_cases c : j = b
      · subst c
        rw [u2_at, if_pos rfl, upd_at]
        rfl
      · rw [u2_ni (by omega), if_neg c, upd_ne c]
        rfl
    · obtain ⟨rfl, -⟩ := id hv
      refine ⟨Or.inl (Or.inl ⟨rfl, by decide⟩), ?_⟩
      show zLc mc d' (n + 1) = zLc mc d' (sN S' 25 0)
      rw [e25]
    · obtain ⟨rfl, -⟩ := id hv
      refine ⟨Or.inr ⟨rfl, rfl⟩, ?_⟩
      show zOb X cap' (va_up (zes S D K 19 0) n (some (D 18 b))) = zOb X cap' (zes S' (u2 D 20 0 d') (u2 K 20 0 cap') 19 0)
      refine congrArg (zOb X cap') (zes_push (S := S) (D := D) (K := K) (r := 19) (i := 0) (S' := S') (D' := u2 D 20 0 d') (K' := u2 K 20 0 cap') en.symm e25 (fun j hj => ?_) ?_)
      · show D 18 (sN S' 24 j) = D 18 (sN S 24 j)
        rw [e24, if_neg (by omega)]
      · show D 18 (sN S' 24 n) = D 18 b
        rw [e24, if_pos rfl]
    · obtain ⟨rfl, -⟩ := id hv
      refine ⟨Or.inl (Or.inl ⟨rfl, by decide⟩), ?_⟩
      show zBk X ((sN S 1 0 - sN S 1 0 / 4) / 16) (fun u => (zow S u).map (D 18)) = zBk X ((sN S' 1 0 - sN S' 1 0 / 4) / 16) (fun u => (zow S' u).map (D 18))
      rw [a1]
      refine congrArg (zBk X ((sN S 1 0 - sN S 1 0 / 4) / 16)) (funext fun u => ?_)
      rw [zow_same (S := S) (S' := S') (fun i => by
        rw [e18]
        by_cases c : i = b
        · rw [if_pos c, c, hl]
          omega
        · rw [if_neg c]) s1 s19 s20 s23]
  · rcases aff r h28 hc with rfl | rfl | rfl | rfl | rfl
    · rcases hl with ⟨-, z⟩ | ⟨z, -⟩ <;> omega
    · rcases hl with ⟨-, z⟩ | ⟨z, -⟩ <;> omega
    · obtain ⟨rfl, -⟩ : j = 0 ∧ True := by rcases hl with ⟨z, -⟩ | ⟨z, -⟩ <;> first | exact ⟨z, trivial⟩ | omega
      exact ⟨fun z => absurd z (by show cap' ≠ 0; omega), by show sN S' 25 0 ≤ cap'; omega, hcap.2⟩
    · rcases hl with ⟨-, z⟩ | ⟨z, -⟩ <;> omega
    · rcases hl with ⟨-, z⟩ | ⟨z, -⟩ <;> omega
  · intro j hj
    rw [a23]
    exact R.2.2.1 j hj
end ZTB
