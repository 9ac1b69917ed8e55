section ZL2
variable {X : zCx} {F : Nat → Option va_E} {o p q : Nat} {S : zS} {D : Nat → Nat → Nat} {W : Nat → Nat → Int32} {K : Nat → Nat → Nat} {h : zHp} {cc : Nat}
theorem zce18 (i : Nat) : zce X S D W K 18 i = zBc S i (nI (sN S 18 i)) (S 22 i) (W 100 i) (W 101 i) := rfl
/-- a block's first mark -/
theorem zSt_m0 (R : zSt X F o S D W K h p q) {b : Nat} (hb : b < sN S 23 0) (x : Int32) : zSt X F o S D (u2 W 100 b x) K (zset h (D 18 b) (zBc S b (nI (sN S 18 b)) (S 22 b) x (W 101 b))) p q := by
  have aff : ∀ r, r < 28 → zhk [] [] [100] [] r = false → r = 18 := by decide
  refine zSt_mk [] [] [100] [] R (zW_put (zSt_W R) (r := 18) (i := b) (Or.inl hb) _) (fun _ _ => rfl) (fun _ _ => rfl) (fun k ⟨a, _⟩ => by simp only [u2, a]) (fun _ _ => rfl) (zK1_u rfl zK1_r) (fun r i h28 hc hv => ?_) (fun r i h28 hc hl => ?_) rfl R.2.2.1 R.2.2.2.2
  · have e := aff r h28 hc
    subst e
    refine ⟨Or.inl hv, ?_⟩
    show _ = zBc S i (nI (sN S 18 i)) (S 22 i) (u2 W 100 b x 100 i) (W 101 i)
    by_cases c : i = b
    · rw [c, u2_at, u2_at]
    · rw [u2_ni (by omega), u2_ni (by omega)]
      rfl
  · have e := aff r h28 hc
    subst e
    rcases hl with ⟨-, z⟩ | ⟨z, -⟩ <;> omega
/-- a block's second mark -/
theorem zSt_m1 (R : zSt X F o S D W K h p q) {b : Nat} (hb : b < sN S 23 0) (x : Int32) : zSt X F o S D (u2 W 101 b x) K (zset h (D 18 b) (zBc S b (nI (sN S 18 b)) (S 22 b) (W 100 b) x)) p q := by
  have aff : ∀ r, r < 28 → zhk [] [] [101] [] r = false → r = 18 := by decide
  refine zSt_mk [] [] [101] [] R (zW_put (zSt_W R) (r := 18) (i := b) (Or.inl hb) _) (fun _ _ => rfl) (fun _ _ => rfl) (fun k ⟨a, _⟩ => by simp only [u2, a]) (fun _ _ => rfl) (zK1_u rfl zK1_r) (fun r i h28 hc hv => ?_) (fun r i h28 hc hl => ?_) rfl R.2.2.1 R.2.2.2.2
  · have e := aff r h28 hc
    subst e
    refine ⟨Or.inl hv, ?_⟩
    show _ = zBc S i (nI (sN S 18 i)) (S 22 i) (W 100 i) (u2 W 101 b x 101 i)
    by_cases c : i = b
    · rw [c, u2_at, u2_at]
    · rw [u2_ni (by omega), u2_ni (by omega)]
      rfl
  · have e := aff r h28 hc
    subst e
    rcases hl with ⟨-, z⟩ | ⟨z, -⟩ <;> omega
theorem zgrow_p {cap : Nat} : zgrow cap + 4 * cap ≤ 4 * zgrow cap ∧ cap + 1 ≤ zgrow cap := by unfold zgrow; split <;> (try split) <;> omega
/-- a block is put into the found row -/
theorem zSt_fnd (R : zSt X F o S D W K h p q) (wf : ∀ a e, h.1 a = some e → a < h.2.1) {b : Nat} (hb : b < sN S 23 0) (hn : K 50 0 < 512) : ∃ D' W' K', (∀ r, r ≠ 24 → D' r = D r) ∧ (∀ i, W' 100 i = W 100 i) ∧ K' 50 0 = K 50 0 + 1 ∧ (∀ j, K' 51 j = if j = K 50 0 then b else K 51 j) ∧ zSt X F o S D' W' K' (zPush X h (D 23 0) (D 24 0) (W 23 0 + 1) (K 50 0) (K 24 0) (zes S D K 23 0) (D 18 b)) p q := by
  have A := R.1.2.2 23 0 (Or.inl ⟨rfl, by decide⟩)
  have A2 : K 50 0 ≤ K 24 0 := A.2.1
  have A3 : K 24 0 ≤ 1600 := A.2.2
  have hbd := R.2.2.2.2
  obtain ⟨n, en⟩ : ∃ n, n = K 50 0 := ⟨_, rfl⟩
  obtain ⟨d', cap', hdc, w2⟩ := zW_push (X := X) (zSt_W R) wf (r := 23) (i := 0) (n := K 50 0) (cap := K 24 0) (b := D 18 b) (mc := W 23 0 + 1) (g := zes S D K 23 0) (Or.inl ⟨rfl, by decide⟩) (fun c => Or.inl ⟨rfl, c⟩) A2 (fun j hj => zes_none hj)
  have hcap : K 50 0 + 1 ≤ cap' ∧ cap' ≤ 1600 := by
    rcases hdc with ⟨c1, c2, c3, c4⟩ | ⟨c1, c2, c3, c4⟩
    · omega
    · have := zgrow_l (cap := K 24 0) (by omega)
      omega
  obtain ⟨K', eK⟩ : ∃ K', K' = zU (u2 (u2 K 24 0 cap') 50 0 (n + 1)) 51 (fun j => if j = n then b else K 51 j) := ⟨_, rfl⟩
  have k24 : K' 24 0 = cap' := by rw [eK]; rfl
  have k50 : K' 50 0 = n + 1 := by rw [eK]; rfl
  have k51 : ∀ j, K' 51 j = if j = n then b else K 51 j := fun j => by rw [eK]; rfl
  have aff : ∀ r, r < 28 → zhk [] [24] [23] [24, 50, 51] r = false → r = 23 ∨ r = 24 := by decide
  refine ⟨u2 D 24 0 d', u2 W 23 0 (W 23 0 + 1), K', fun r hr => u2_nr hr, fun i => rfl, by rw [k50, en], by rw [← en]; exact k51, zSt_mk [] [24] [23] [24, 50, 51] R w2 (fun _ _ => rfl) (fun k ⟨a, _⟩ => by simp only [u2, a]) (fun k ⟨a, _⟩ => by simp only [u2, a]) (fun k ⟨a, b, c, _⟩ => by rw [eK]; simp only [zU, u2, a, b, c]) (zK1_u rfl (zK1_u rfl (zK1_a zK1_r))) (fun r i h28 hc hv => ?_) (fun r i h28 hc hl => ?_) rfl ?_ ?_⟩
  · rcases aff r h28 hc with rfl | rfl
    · obtain ⟨rfl, -⟩ := id hv
      refine ⟨Or.inl (Or.inl ⟨rfl, by decide⟩), ?_⟩
      rw [u2_at]
      show zLc (W 23 0 + 1) d' (K 50 0 + 1) = zLc (W 23 0 + 1) d' (K' 50 0)
      rw [k50, en]
    · obtain ⟨rfl, -⟩ := id hv
      refine ⟨Or.inr ⟨rfl, rfl⟩, ?_⟩
      show zOb X cap' (va_up (zes S D K 23 0) (K 50 0) (some (D 18 b))) = zOb X (K' 24 0) (zes S (u2 D 24 0 d') K' 23 0)
      rw [k24]
      refine congrArg (zOb X cap') (zes_push (S := S) (D := D) (K := K) (r := 23) (i := 0) (S' := S) (D' := u2 D 24 0 d') (K' := K') rfl (by show K' 50 0 = _; rw [k50, en]) (fun j hj => ?_) ?_)
      · show D 18 (K' 51 j) = D 18 (K 51 j)
        rw [k51, if_neg (by omega)]
      · show D 18 (K' 51 (K 50 0)) = D 18 b
        rw [k51, if_pos en.symm]
  · rcases aff r h28 hc with rfl | rfl
    · obtain ⟨rfl, -⟩ : i = 0 ∧ True := by rcases hl with ⟨z, -⟩ | ⟨z, -⟩ <;> first | exact ⟨z, trivial⟩ | omega
      have k24' : K' (23 + 1) 0 = cap' := k24
      rw [k24']
      exact ⟨fun z => by omega, by show K' 50 0 ≤ cap'; omega, hcap.2⟩
    · rcases hl with ⟨-, z⟩ | ⟨z, -⟩ <;> omega
  · intro j hj
    rw [k51]
    by_cases c : j = n
    · rw [if_pos c]
      exact hb
    · rw [if_neg c]
      exact R.2.2.1 j (by omega)
  · rw [k24]
    have gp := zgrow_p (cap := K 24 0)
    rcases hdc with ⟨c1, c2, c3, c4⟩ | ⟨c1, c2, c3, c4⟩
    · exact ⟨Nat.le_trans (Nat.le_of_eq (congrArg Prod.fst c4)) (by show h.2.1 ≤ _; omega), Nat.le_trans (Nat.le_of_eq (congrArg Prod.snd c4)) (by show h.2.2 ≤ _; omega)⟩
    · exact ⟨Nat.le_trans (Nat.le_of_eq (congrArg Prod.fst c4)) (by show h.2.1 + 1 ≤ _; omega), Nat.le_trans (Nat.le_of_eq (congrArg Prod.snd c4)) (by show h.2.2 + zgrow (K 24 0) ≤ _; omega)⟩
/-- the found row is emptied -/
theorem zSt_clr (R : zSt X F o S D W K h p q) : zSt X F o S D (u2 W 23 0 (W 23 0 + 1)) (u2 K 50 0 0) (zClr X h (D 23 0) (D 24 0) (W 23 0 + 1) (K 50 0) (K 24 0) (zes S D K 23 0)) p q := by
  have A := R.1.2.2 23 0 (Or.inl ⟨rfl, by decide⟩)
  have A2 : K 50 0 ≤ K 24 0 := A.2.1
  have aff : ∀ r, r < 28 → zhk [] [] [23] [50] r = false → r = 23 ∨ r = 24 := by decide
  have tail : ∀ (i : Nat) (r : Nat), r < 28 → zhk [] [] [23] [50] r = false → zls S r i → (u2 K 50 0 0 (r + 1) i = 0 → zDef X (D (r + 1) i)) ∧ zln S (u2 K 50 0 0) r i ≤ u2 K 50 0 0 (r + 1) i ∧ u2 K 50 0 0 (r + 1) i ≤ 1600 := by
    intro i r h28 hc hl
    rcases aff r h28 hc with rfl | rfl
    · obtain ⟨rfl, -⟩ : i = 0 ∧ True := by rcases hl with ⟨z, -⟩ | ⟨z, -⟩ <;> first | exact ⟨z, trivial⟩ | omega
      exact ⟨A.1, Nat.zero_le _, A.2.2⟩
    · rcases hl with ⟨-, z⟩ | ⟨z, -⟩ <;> omega
  by_cases c : K 24 0 = 0
  · have w1 := zW_put (zSt_W R) (r := 23) (i := 0) (Or.inl ⟨rfl, by decide⟩) (zLc (W 23 0 + 1) (D 24 0) 0)
    rw [show zClr X h (D 23 0) (D 24 0) (W 23 0 + 1) (K 50 0) (K 24 0) (zes S D K 23 0) = _ from if_pos c]
    refine zSt_mk [] [] [23] [50] R w1 (fun _ _ => rfl) (fun _ _ => rfl) (fun k ⟨a, _⟩ => by simp only [u2, a]) (fun k ⟨a, _⟩ => by simp only [u2, a]) (zK1_u rfl zK1_r) (fun r i h28 hc hv => ?_) (fun r i h28 hc hl => tail i r h28 hc hl) rfl (fun j hj => by have : j < 0 := hj; omega) R.2.2.2.2
    rcases aff r h28 hc with rfl | rfl
    · obtain ⟨rfl, -⟩ := id hv
      exact ⟨Or.inl ⟨rfl, by decide⟩, u2_at _ _ _ _⟩
    · have : 0 < K 24 0 := by
        obtain ⟨rfl, z⟩ := id hv
        exact z
      omega
  · have w2 := zW_put (zW_put (zSt_W R) (r := 24) (i := 0) (Or.inl ⟨rfl, by omega⟩) (zOb X (K 24 0) (fun j => if j < K 50 0 then none else zes S D K 23 0 j))) (r := 23) (i := 0) (Or.inl ⟨rfl, by decide⟩) (zLc (W 23 0 + 1) (D 24 0) 0)
    rw [show zClr X h (D 23 0) (D 24 0) (W 23 0 + 1) (K 50 0) (K 24 0) (zes S D K 23 0) = _ from if_neg c]
    refine zSt_mk [] [] [23] [50] R w2 (fun _ _ => rfl) (fun _ _ => rfl) (fun k ⟨a, _⟩ => by simp only [u2, a]) (fun k ⟨a, _⟩ => by simp only [u2, a]) (zK1_u rfl (zK1_u rfl zK1_r)) (fun r i h28 hc hv => ?_) (fun r i h28 hc hl => tail i r h28 hc hl) rfl (fun j hj => by have : j < 0 := hj; omega) R.2.2.2.2
    rcases aff r h28 hc with rfl | rfl
    · obtain ⟨rfl, -⟩ := id hv
      exact ⟨Or.inl ⟨rfl, by decide⟩, u2_at _ _ _ _⟩
    · obtain ⟨rfl, z⟩ := id hv
      refine ⟨Or.inl ⟨rfl, z⟩, ?_⟩
      show zOb X (K 24 0) (fun j => if j < K 50 0 then none else zes S D K 23 0 j) = zOb X (K 24 0) (zes S D (u2 K 50 0 0) 23 0)
      refine congrArg (zOb X (K 24 0)) (funext fun j => ?_)
      show (if j < K 50 0 then none else if j < K 50 0 then _ else none) = if j < 0 then _ else none
      rw [if_neg (show ¬ j < 0 by omega)]
      by_cases c2 : j < K 50 0
      · rw [if_pos c2]
      · rw [if_neg c2, if_neg c2]
theorem zcnt_n {f : Nat → Nat} {N : Nat} : ∀ (n : Nat), (∀ j, j < n → f j < N) → (∀ i j, i < n → j < n → f i = f j → i = j) → zSum (fun k => zif (∃ j, j < n ∧ f j = k) 1 0) N = n := by
  intro n
  induction n with
  | zero =>
    intro _ _
    rw [zSum_c (g' := fun _ => 0) (fun k _ => zif_neg (fun ⟨j, hj, _⟩ => by omega))]
    induction N with
    | zero => rfl
    | succ N ih => exact ih (fun j hj => by omega)
  | succ n ih =>
    intro h1 h2
    have i1 := ih (fun j hj => h1 j (by omega)) (fun i j hi hj => h2 i j (by omega) (by omega))
    have u := zSum_u (g := fun k => zif (∃ j, j < n ∧ f j = k) 1 0) (g' := fun k => zif (∃ j, j < n + 1 ∧ f j = k) 1 0) (h1 n (by omega)) (fun i hi hne => by
      by_cases c : ∃ j, j < n ∧ f j = i
      · obtain ⟨j, hj, e⟩ := c
        rw [zif_pos ⟨j, by omega, e⟩, zif_pos ⟨j, hj, e⟩]
      · rw [zif_neg c, zif_neg (fun ⟨j, hj, e⟩ => by
          by_cases d : j = n
          · rw [d] at e
            exact hne e.symm
          · exact c ⟨j, by omega, e⟩)])
    rw [zif_neg (fun ⟨j, hj, e⟩ => by have := h2 j n (by omega) (by omega) e; omega), zif_pos ⟨n, by omega, rfl⟩, i1] at u
    omega
theorem zSum_mono {g g' : Nat → Nat} {n : Nat} (e : ∀ i, i < n → g i ≤ g' i) : zSum g n ≤ zSum g' n := by
  induction n with
  | zero => exact Nat.le_refl _
  | succ n ih =>
    show zSum g n + g n ≤ zSum g' n + g' n
    have := ih (fun i hi => e i (by omega))
    have := e n (by omega)
    omega
/-- what stands in the found row -/
def zFi (S : zS) (W : Nat → Nat → Int32) (K : Nat → Nat → Nat) : Prop := (∀ j, j < K 50 0 → K 51 j < sN S 23 0 ∧ sN S 18 (K 51 j) = 0 ∧ sFnd S (K 51 j)) ∧ (∀ i j, i < K 50 0 → j < K 50 0 → K 51 i = K 51 j → i = j) ∧ ∀ k, k < sN S 23 0 → W 100 k = zif (∃ j, j < K 50 0 ∧ K 51 j = k) 1 0
theorem zFi_live (fi : zFi S W K) : K 50 0 ≤ sLive S (sN S 23 0) := by
  have := zcnt_n (f := K 51) (N := sN S 23 0) (K 50 0) (fun j hj => (fi.1 j hj).1) fi.2.1
  rw [← this]
  refine zSum_mono (fun k hk => ?_)
  by_cases c : ∃ j, j < K 50 0 ∧ K 51 j = k
  · rw [zif_pos c]
    obtain ⟨j, hj, e⟩ := c
    have := (fi.1 j hj).2.1
    rw [e] at this
    rw [if_pos this]
    exact Nat.le_refl _
  · rw [zif_neg c]
    exact Nat.zero_le _
theorem sLive_le (S : zS) (n : Nat) : sLive S n ≤ n := by
  have := zSum_le (g := fun b => if sN S 18 b = 0 then 1 else 0) (b := 1) (fun i => by split <;> omega) n
  have e : sLive S n = zSum (fun b => if sN S 18 b = 0 then 1 else 0) n := rfl
  omega
end ZL2
