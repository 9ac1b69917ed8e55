section ZMF
variable {X : zCx} {F : Nat → Option va_E} {o p q : Nat} {S : zS} {D : Nat → Nat → Nat} {W : Nat → Nat → Int32} {K : Nat → Nat → Nat} {h : zHp} {cc tt fc fd : Nat} {Q : zRs → zHp → Prop}
def zIn (K : Nat → Nat → Nat) (b : Nat) : Prop := ∃ j, j < K 50 0 ∧ K 51 j = b
theorem zIn_t {D D' K K' : Nat → Nat → Nat} (e : zFE D K D' K') {b : Nat} (h : zIn K b) : zIn K' b := by
  obtain ⟨j, h1, h2⟩ := h
  exact ⟨j, by have := e.2.1; omega, by rw [e.2.2 j h1]; exact h2⟩
/-- what the loops of markFound hand on -/
def zMk (X : zCx) (F : Nat → Option va_E) (o : Nat) (S : zS) (D : Nat → Nat → Nat) (p q : Nat) (P : (Nat → Nat → Nat) → Prop) (g : zHp) : Prop := ∃ D' W' K', (∀ r, r ≠ 24 → D' r = D r) ∧ zSt X F o S D' W' K' g p q ∧ zFi S W' K' ∧ P K'
theorem zfnd_0 {b : Nat} (h1 : b < sN S 23 0) (h2 : sN S 18 b = 0) (h3 : sRt S b) : sFnd S b := ⟨0, h1, h2, h3⟩
theorem zfnd_s {a b : Nat} (ha : sFnd S a) (ha2 : a < sN S 23 0) (h1 : b < sN S 23 0) (h2 : sN S 18 b = 0) (h3 : sLd S (sN S 15 a) (sN S 16 a) b) : sFnd S b := by
  obtain ⟨k, hk⟩ := ha
  exact ⟨k + 1, Or.inr ⟨h1, h2, a, ha2, hk, h3⟩⟩
def zGC (S : zS) (m : Nat) (K : Nat → Nat → Nat) : Prop := ∀ b, b < sN S 23 0 → sN S 18 b = 0 → (∃ k, k < m ∧ sLd S (sN S 5 k) (sN S 6 k) b) → zIn K b
def zVC (S : zS) (m : Nat) (K : Nat → Nat → Nat) : Prop := ∀ b, b < sN S 23 0 → sN S 18 b = 0 → (∃ v, v < m ∧ v % 4 < sN S 10 (v / 4) ∧ sN S 13 v = 0 ∧ sLd S (sN S 11 v) (sN S 12 v) b) → zIn K b
def zBC (S : zS) (m : Nat) (K : Nat → Nat → Nat) : Prop := ∀ j, j < m → j < K 50 0 → ∀ b, b < sN S 23 0 → sN S 18 b = 0 → sLd S (sN S 15 (K 51 j)) (sN S 16 (K 51 j)) b → zIn K b
theorem k_mark4 (G : zG X) (I : sInv S cc) (hp : p ≤ 500000 ∧ q ≤ 7000000) (ett : D 22 0 = tt) (hQ : ∀ g, zMk X F o S D p q (fun K' => zGC S (sN S 7 0) K' ∧ zVC S (4 * sN S 14 0) K' ∧ zBC S (K' 50 0) K') g → Q (.inl none) g) (o2 o3 : Option Value) :
    ∀ i, i ≤ sN S 23 0 → ∀ g, zMk X F o S D p q (fun K' => zGC S (sN S 7 0) K' ∧ zVC S (4 * sN S 14 0) K' ∧ zBC S i K') g → Z X MX5_markFound (8, 320, fc, fd) g 170 [some (.ref tt), some (.int (nI i)), o2, o3] [.ref tt, .int (nI i)] Q := by
  have c1 := I.2.2.2.2.2.2.2.2.1
  have c2 := I.2.2.2.2.2.2.2.2.2.1
  have lle := sLive_le S (sN S 23 0)
  refine zdown (P := fun i => ∀ g, zMk X F o S D p q (fun K' => zGC S (sN S 7 0) K' ∧ zVC S (4 * sN S 14 0) K' ∧ zBC S i K') g → Z X MX5_markFound (8, 320, fc, fd) g 170 [some (.ref tt), some (.int (nI i)), o2, o3] [.ref tt, .int (nI i)] Q) (sN S 23 0) (fun i hi ih g mk => ?_)
  obtain ⟨D', W', K', hD, R, fi, r1, r2, r3⟩ := id mk
  have e22 : D' 22 0 = tt := by rw [hD 22 (by decide)]; exact ett
  have x22 := R.1.1 22 0 ⟨rfl, by decide⟩
  rw [e22] at x22
  have x15 := zRel_15 R.1
  have nl := zFi_live fi
  have A : zAl X g (D' 23 0) (D' 24 0) (W' 23 0) (K' 50 0) (K' 24 0) (zes S D' K' 23 0) := zRel_al R.1 (r := 23) (i := 0) (Or.inl ⟨rfl, by decide⟩)
  refine z_get x22 rfl rfl rfl rfl ?_
  refine z_get x15 rfl rfl rfl rfl ?_
  refine z_br rfl rfl (fun c => ?_) (fun c => ?_) <;> (try dsimp only at c)
  · rw [n_le (by omega) (by omega)] at c
    exact z_vret rfl rfl (hQ _ ⟨D', W', K', hD, R, fi, r1, r2, fun j hj => r3 j (by omega)⟩)
  rw [n_le (by omega) (by omega)] at c
  refine z_go 90 rfl ?_
  refine z_get x22 rfl rfl rfl rfl ?_
  refine z_cV A.1 (c_size (z := .null) G A.1) KJx4a65c_size_8abf5 IJx4a65c_size_8abf5 VJx4a65c_size_8abf5 rfl rfl rfl PJx4a65c_size_8abf5 rfl rfl rfl rfl ?_
  refine z_br rfl rfl (fun d => ?_) (fun d => ?_) <;> (try dsimp only at d)
  · rw [n_le (by omega) (by omega)] at d
    exact z_vret rfl rfl (hQ _ ⟨D', W', K', hD, R, fi, r1, r2, fun j hj => r3 j (by omega)⟩)
  rw [n_le (by omega) (by omega)] at d
  obtain ⟨a, ea⟩ : ∃ a, a = K' 51 i := ⟨_, rfl⟩
  obtain ⟨a1, a2, a3⟩ := fi.1 i (by omega)
  rw [← ea] at a1 a2 a3
  have x18 := R.1.1 18 a a1
  have ib := I.2.2.2.2.1.1 a a1
  have hch := sCh_b (sN S 16 a)
  have fnd := k_find1 G I R hp fi (ra := D' 18 a) (A := sN S 15 a) (n := sN S 16 a) (fun D2 W2 K2 h2 hD2 R2 => by
    have := R2.1.1 18 a a1
    rw [hD2 18 (by decide)] at this
    exact ⟨_, _, _, this⟩) (by omega) (fun b b1 b2 b3 => zfnd_s a3 a1 b1 b2 b3)
  rw [e22] at fnd
  refine z_go 90 rfl ?_
  refine z_get x22 rfl rfl rfl rfl ?_
  refine z_go 90 rfl ?_
  refine z_cV A.1 (c_get G (b := D' 18 a) i A (i_nI (by omega)) (by omega) (by rw [ea]; exact if_pos (by show i < K' 50 0; omega))) KJx4a65c_get_915e3 IJx4a65c_get_915e3 VJx4a65c_get_915e3 rfl rfl rfl PJx4a65c_get_915e3 rfl rfl rfl rfl ?_
  refine z_cast x18 rfl rfl (by decide +kernel) ?_
  refine z_cVP x22 fnd KX5_findFrom IX5_findFrom VX5_findFrom rfl rfl rfl PX5_findFrom rfl rfl rfl rfl ?_
  intro g2 P2
  obtain ⟨D2, W2, K2, fe, R2, fi2, cm⟩ := P2
  refine z_go 90 rfl ?_
  rw [show nI i + (1 : Int32) = nI (i + 1) from n_succ i]
  refine ih (by omega) g2 ⟨D2, W2, K2, fun r hr => by rw [fe.1 r hr, hD r hr], R2, fi2, fun b b1 b2 b3 => zIn_t fe (r1 b b1 b2 b3), fun b b1 b2 b3 => zIn_t fe (r2 b b1 b2 b3), fun j hj hj2 b b1 b2 b3 => ?_⟩
  by_cases e : j = i
  · rw [e, fe.2.2 i (by omega), ← ea] at b3
    exact cm b b1 b2 b3
  · by_cases e2 : j < K' 50 0
    · rw [fe.2.2 j e2] at b3
      exact zIn_t fe (r3 j (by omega) e2 b b1 b2 b3)
    · omega
theorem k_mark3 (G : zG X) (I : sInv S cc) (hp : p ≤ 500000 ∧ q ≤ 7000000) (ett : D 22 0 = tt) (hQ : ∀ g, zMk X F o S D p q (fun K' => zGC S (sN S 7 0) K' ∧ zVC S (4 * sN S 14 0) K' ∧ zBC S (K' 50 0) K') g → Q (.inl none) g) :
    ∀ f, f ≤ sN S 14 0 → ∀ g (o2 o3 : Option Value), zMk X F o S D p q (fun K' => zGC S (sN S 7 0) K' ∧ zVC S (4 * f) K') g → Z X MX5_markFound (8, 320, fc, fd) g 91 [some (.ref tt), some (.int (nI f)), o2, o3] [.ref tt, .int (nI f)] Q := by
  obtain ⟨I0, In, Ig, If, -⟩ := id I
  have f1 := If.1
  refine zdown (P := fun f => ∀ g (o2 o3 : Option Value), zMk X F o S D p q (fun K' => zGC S (sN S 7 0) K' ∧ zVC S (4 * f) K') g → Z X MX5_markFound (8, 320, fc, fd) g 91 [some (.ref tt), some (.int (nI f)), o2, o3] [.ref tt, .int (nI f)] Q) (sN S 14 0) (fun f hf ih g o2 o3 mk => ?_)
  obtain ⟨D', W', K', hD, R, fi, r1, r2⟩ := id mk
  have e22 : D' 22 0 = tt := by rw [hD 22 (by decide)]; exact ett
  have x22 := R.1.1 22 0 ⟨rfl, by decide⟩
  rw [e22] at x22
  have x8 := R.1.1 8 0 ⟨rfl, by decide⟩
  refine z_get x22 rfl rfl rfl rfl ?_
  refine z_cV x8 (k_count G I R.1) KX2_count IX2_count VX2_count rfl rfl rfl PX2_count rfl rfl rfl rfl ?_
  refine z_br rfl rfl (fun c => ?_) (fun c => ?_) <;> (try dsimp only at c)
  · rw [n_le (by omega) (by omega)] at c
    refine z_go 90 rfl ?_
    exact k_mark4 G I hp ett hQ _ _ 0 (Nat.zero_le _) g ⟨D', W', K', hD, R, fi, r1, fun b b1 b2 ⟨v, v1, v2⟩ => r2 b b1 b2 ⟨v, by omega, v2⟩, fun j hj => by omega⟩
  rw [n_le (by omega) (by omega)] at c
  have A9 : zAl X g (D' 9 0) (D' 10 0) (W' 9 0) (sN S 14 0) (K' 10 0) (zes S D' K' 9 0) := zRel_al R.1 (r := 9) (i := 0) (Or.inl ⟨rfl, by decide⟩)
  have x11 := R.1.1 11 f (show f < sN S 14 0 by omega)
  obtain ⟨vl, evl⟩ : ∃ vl, vl = D 12 f := ⟨_, rfl⟩
  have evl' : D' 12 f = vl := by rw [evl, hD 12 (by decide)]
  have h4 := (If.2 f (by omega)).2.2.2.2.2.2.2.1
  refine z_go 90 rfl ?_
  refine z_get x22 rfl rfl rfl rfl ?_
  refine z_get x8 rfl rfl rfl rfl ?_
  refine z_go 90 rfl ?_
  refine z_cV A9.1 (c_get G (b := D' 11 f) f A9 (i_nI (by omega)) (by omega) (if_pos (by show f < sN S 14 0; omega))) KJx4a65c_get_915e3 IJx4a65c_get_915e3 VJx4a65c_get_915e3 rfl rfl rfl PJx4a65c_get_915e3 rfl rfl rfl rfl ?_
  refine z_cast x11 rfl rfl (by decide +kernel) ?_
  refine z_get x11 rfl rfl rfl rfl ?_
  rw [evl']
  refine z_go 90 rfl ?_
  have inner : ∀ j, j ≤ sN S 10 f → ∀ g, zMk X F o S D p q (fun K' => zGC S (sN S 7 0) K' ∧ zVC S (4 * f + j) K') g → Z X MX5_markFound (8, 320, fc, fd) g 122 [some (.ref tt), some (.int (nI f)), some (.ref vl), some (.int (nI j))] [.ref vl, .int (nI j)] Q := by
    refine zdown (P := fun j => ∀ g, zMk X F o S D p q (fun K' => zGC S (sN S 7 0) K' ∧ zVC S (4 * f + j) K') g → Z X MX5_markFound (8, 320, fc, fd) g 122 [some (.ref tt), some (.int (nI f)), some (.ref vl), some (.int (nI j))] [.ref vl, .int (nI j)] Q) (sN S 10 f) (fun j hj ihj g mk => ?_)
    obtain ⟨D', W', K', hD, R, fi, r1, r2⟩ := id mk
    have e22 : D' 22 0 = tt := by rw [hD 22 (by decide)]; exact ett
    have x22 := R.1.1 22 0 ⟨rfl, by decide⟩
    rw [e22] at x22
    have evl' : D' 12 f = vl := by rw [evl, hD 12 (by decide)]
    have B : zAl X g (D' 12 f) (D' 13 f) (W' 12 f) (sN S 10 f) (K' 13 f) (zes S D' K' 12 f) := zRel_al R.1 (r := 12) (i := f) (Or.inr ⟨rfl, by omega⟩)
    rw [evl'] at B
    refine z_cV B.1 (c_size (z := .null) G B.1) KJx4a65c_size_8abf5 IJx4a65c_size_8abf5 VJx4a65c_size_8abf5 rfl rfl rfl PJx4a65c_size_8abf5 rfl rfl rfl rfl ?_
    refine z_br rfl rfl (fun d => ?_) (fun d => ?_) <;> (try dsimp only at d)
    · rw [n_le (by omega) (by omega)] at d
      refine z_go 90 rfl ?_
      rw [show nI f + (1 : Int32) = nI (f + 1) from n_succ f]
      refine ih (by omega) g _ _ ⟨D', W', K', hD, R, fi, r1, fun b b1 b2 ⟨v, v1, v2, v3⟩ => r2 b b1 b2 ⟨v, ?_, v2, v3⟩⟩
      by_cases e : v < 4 * f
      · omega
      · rw [show v / 4 = f by omega] at v2
        omega
    rw [n_le (by omega) (by omega)] at d
    have hvd : zvd S K' 14 (4 * f + j) := ⟨by omega, by
      rw [show (4 * f + j) % 4 = j by omega, show (4 * f + j) / 4 = f by omega]
      omega⟩
    have x14 := R.1.1 14 (4 * f + j) hvd
    obtain ⟨v1, v2, v3, v4, v5, v6⟩ := (If.2 f (by omega)).2.2.2.2.2.2.2.2 j (by omega)
    have hpd : sN S 12 (4 * f + j) ≤ sPad (sN S 12 (4 * f + j)) := by unfold sPad; omega
    have f2 := If.2 f (by omega)
    have h9 : sN S 9 f ≤ sN S 1 0 := by
      have q4 := f2.2.2.2.1
      by_cases c : f = 0
      · rw [if_pos c] at q4; omega
      · rw [if_neg c] at q4
        have := (If.2 (f - 1) (by omega)).2.1
        omega
    refine z_go 90 rfl ?_
    refine z_cV B.1 (c_get G (b := D' 14 (4 * f + j)) j B (i_nI (by omega)) (by omega) (if_pos (by show j < sN S 10 f; omega))) KJx4a65c_get_915e3 IJx4a65c_get_915e3 VJx4a65c_get_915e3 rfl rfl rfl PJx4a65c_get_915e3 rfl rfl rfl rfl ?_
    refine z_cast x14 rfl rfl (by decide +kernel) ?_
    refine z_get x14 rfl rfl rfl rfl ?_
    refine z_ite (p := sN S 13 (4 * f + j) = 0) (fun e => ?_) (fun e => ?_)
    · rw [show nI (1 - sN S 13 (4 * f + j)) = (1 : Int32) by rw [e]; rfl]
      refine z_br rfl rfl (fun c => absurd c (by first | decide | (dsimp only; decide))) (fun _ => ?_)
      refine z_go 90 rfl ?_
      refine z_cV B.1 (c_get G (b := D' 14 (4 * f + j)) j B (i_nI (by omega)) (by omega) (if_pos (by show j < sN S 10 f; omega))) KJx4a65c_get_915e3 IJx4a65c_get_915e3 VJx4a65c_get_915e3 rfl rfl rfl PJx4a65c_get_915e3 rfl rfl rfl rfl ?_
      refine z_cast x14 rfl rfl (by decide +kernel) ?_
      have fnd := k_find10 G I R hp fi (ra := D' 14 (4 * f + j)) (A := sN S 11 (4 * f + j)) (n := sN S 12 (4 * f + j)) (fun D2 W2 K2 h2 hD2 R2 => by
        have := R2.1.1 14 (4 * f + j) ⟨hvd.1, hvd.2⟩
        rw [hD2 14 (by decide)] at this
        exact ⟨_, _, _, this⟩) (by omega) (fun b b1 b2 b3 => zfnd_0 b1 b2 (Or.inr ⟨4 * f + j, hvd.1, hvd.2, e, b3⟩))
      rw [e22] at fnd
      refine z_cVP x22 fnd KX5_findFrom IX5_findFrom VX5_findFrom rfl rfl rfl PX5_findFrom rfl rfl rfl rfl ?_
      intro g2 P2
      obtain ⟨D2, W2, K2, fe, R2, fi2, cm⟩ := P2
      refine z_go 90 rfl ?_
      rw [show nI j + (1 : Int32) = nI (j + 1) from n_succ j]
      refine ihj (by omega) g2 ⟨D2, W2, K2, fun r hr => by rw [fe.1 r hr, hD r hr], R2, fi2, fun b b1 b2 b3 => zIn_t fe (r1 b b1 b2 b3), fun b b1 b2 ⟨v, u1, u2, u3, u4⟩ => ?_⟩
      by_cases e9 : v = 4 * f + j
      · rw [e9] at u4
        exact cm b b1 b2 u4
      · exact zIn_t fe (r2 b b1 b2 ⟨v, by omega, u2, u3, u4⟩)
    · rw [show nI (1 - sN S 13 (4 * f + j)) = (0 : Int32) by rw [show 1 - sN S 13 (4 * f + j) = 0 by omega]; rfl]
      refine z_br rfl rfl (fun _ => ?_) (fun c => absurd c (by first | decide | (dsimp only; decide)))
      refine z_go 90 rfl ?_
      rw [show nI j + (1 : Int32) = nI (j + 1) from n_succ j]
      refine ihj (by omega) g ⟨D', W', K', hD, R, fi, r1, fun b b1 b2 ⟨v, u1, u2, u3, u4⟩ => ?_⟩
      by_cases e9 : v = 4 * f + j
      · rw [e9] at u3
        exact absurd u3 e
      · exact r2 b b1 b2 ⟨v, by omega, u2, u3, u4⟩
  exact inner 0 (Nat.zero_le _) g mk
theorem k_mark2 (G : zG X) (I : sInv S cc) (hp : p ≤ 500000 ∧ q ≤ 7000000) (ett : D 22 0 = tt) (hQ : ∀ g, zMk X F o S D p q (fun K' => zGC S (sN S 7 0) K' ∧ zVC S (4 * sN S 14 0) K' ∧ zBC S (K' 50 0) K') g → Q (.inl none) g) (o2 o3 : Option Value) :
    ∀ k, k ≤ sN S 7 0 → ∀ g, zMk X F o S D p q (fun K' => zGC S k K') g → Z X MX5_markFound (8, 320, fc, fd) g 51 [some (.ref tt), some (.int (nI k)), o2, o3] [.ref tt, .int (nI k)] Q := by
  obtain ⟨I0, In, Ig, -⟩ := id I
  have g1 := Ig.1
  refine zdown (P := fun k => ∀ g, zMk X F o S D p q (fun K' => zGC S k K') g → Z X MX5_markFound (8, 320, fc, fd) g 51 [some (.ref tt), some (.int (nI k)), o2, o3] [.ref tt, .int (nI k)] Q) (sN S 7 0) (fun k hk ih g mk => ?_)
  obtain ⟨D', W', K', hD, R, fi, r1⟩ := id mk
  have e22 : D' 22 0 = tt := by rw [hD 22 (by decide)]; exact ett
  have x22 := R.1.1 22 0 ⟨rfl, by decide⟩
  rw [e22] at x22
  have x4 := R.1.1 4 0 ⟨rfl, by decide⟩
  have A : zAl X g (D' 5 0) (D' 6 0) (W' 5 0) (sN S 7 0) (K' 6 0) (zes S D' K' 5 0) := zRel_al R.1 (r := 5) (i := 0) (Or.inl ⟨rfl, by decide⟩)
  refine z_get x22 rfl rfl rfl rfl ?_
  refine z_get x4 rfl rfl rfl rfl ?_
  refine z_cV A.1 (c_size (z := .null) G A.1) KJx4a65c_size_8abf5 IJx4a65c_size_8abf5 VJx4a65c_size_8abf5 rfl rfl rfl PJx4a65c_size_8abf5 rfl rfl rfl rfl ?_
  refine z_br rfl rfl (fun c => ?_) (fun c => ?_) <;> (try dsimp only at c)
  · rw [n_le (by omega) (by omega)] at c
    refine z_go 90 rfl ?_
    exact k_mark3 G I hp ett hQ 0 (Nat.zero_le _) g _ _ ⟨D', W', K', hD, R, fi, fun b b1 b2 ⟨v, v1, v2⟩ => r1 b b1 b2 ⟨v, by omega, v2⟩, fun b b1 b2 ⟨v, v1, v2⟩ => by omega⟩
  rw [n_le (by omega) (by omega)] at c
  have x7 := R.1.1 7 k (show k < sN S 7 0 by omega)
  have g2 := Ig.2 k (by omega)
  have fnd := k_find8 G I R hp fi (ra := D' 7 k) (A := sN S 5 k) (n := sN S 6 k) (fun D2 W2 K2 h2 hD2 R2 => by
    have := R2.1.1 7 k (show k < sN S 7 0 by omega)
    rw [hD2 7 (by decide)] at this
    exact ⟨_, _, _, this⟩) (by omega) (fun b b1 b2 b3 => zfnd_0 b1 b2 (Or.inl ⟨k, by omega, b3⟩))
  rw [e22] at fnd
  refine z_go 90 rfl ?_
  refine z_get x22 rfl rfl rfl rfl ?_
  refine z_get x4 rfl rfl rfl rfl ?_
  refine z_go 90 rfl ?_
  refine z_cV A.1 (c_get G (b := D' 7 k) k A (i_nI (by omega)) (by omega) (if_pos (by show k < sN S 7 0; omega))) KJx4a65c_get_915e3 IJx4a65c_get_915e3 VJx4a65c_get_915e3 rfl rfl rfl PJx4a65c_get_915e3 rfl rfl rfl rfl ?_
  refine z_cast x7 rfl rfl (by decide +kernel) ?_
  refine z_cVP x22 fnd KX5_findFrom IX5_findFrom VX5_findFrom rfl rfl rfl PX5_findFrom rfl rfl rfl rfl ?_
  intro g2 P2
  obtain ⟨D2, W2, K2, fe, R2, fi2, cm⟩ := P2
  refine z_go 90 rfl ?_
  rw [show nI k + (1 : Int32) = nI (k + 1) from n_succ k]
  refine ih (by omega) g2 ⟨D2, W2, K2, fun r hr => by rw [fe.1 r hr, hD r hr], R2, fi2, fun b b1 b2 ⟨v, u1, u2⟩ => ?_⟩
  by_cases e9 : v = k
  · rw [e9] at u2
    exact cm b b1 b2 u2
  · exact zIn_t fe (r1 b b1 b2 ⟨v, by omega, u2⟩)
theorem k_markF (G : zG X) (I : sInv S cc) (R : zSt X F o S D W K h p q) (hp : p ≤ 500000 ∧ q ≤ 7000000) : ZM X MX5_markFound 8 320 [.ref (D 22 0)] h (fun r h' => r = .inl none ∧ ∃ D' W' K', (∀ r, r ≠ 24 → D' r = D r) ∧ zSt X F o S D' W' K' h' p q ∧ zFi S W' K' ∧ ∀ b, sFnd S b → zIn K' b) := by
  have c1 := I.2.2.2.2.2.2.2.2.1
  have c2 := I.2.2.2.2.2.2.2.2.2.1
  have hQ : ∀ g, zMk X F o S D p q (fun K' => zGC S (sN S 7 0) K' ∧ zVC S (4 * sN S 14 0) K' ∧ zBC S (K' 50 0) K') g → (fun (r : zRs) (h' : zHp) => r = .inl none ∧ ∃ D' W' K', (∀ r, r ≠ 24 → D' r = D r) ∧ zSt X F o S D' W' K' h' p q ∧ zFi S W' K' ∧ ∀ b, sFnd S b → zIn K' b) (.inl none) g := by
    rintro g ⟨D', W', K', hD, R', fi, r1, r2, r3⟩
    refine ⟨rfl, D', W', K', hD, R', fi, ?_⟩
    rintro b ⟨k, hk⟩
    induction k generalizing b with
    | zero =>
      obtain ⟨b1, b2, b3 | ⟨v, v1, v2, v3, v4⟩⟩ := hk
      · exact r1 b b1 b2 b3
      · exact r2 b b1 b2 ⟨v, v1, v2, v3, v4⟩
    | succ k ih =>
      rcases hk with hk | ⟨b1, b2, a, a1, a2, a3⟩
      · exact ih b hk
      · obtain ⟨j, j1, j2⟩ := ih a a2
        exact r3 j j1 j1 b b1 b2 (by rw [j2]; exact a3)
  have x22 := R.1.1 22 0 ⟨rfl, by decide⟩
  have A : zAl X h (D 23 0) (D 24 0) (W 23 0) (K 50 0) (K 24 0) (zes S D K 23 0) := zRel_al R.1 (r := 23) (i := 0) (Or.inl ⟨rfl, by decide⟩)
  have R1 := zSt_clr R
  have loop : ∀ k, k ≤ sN S 23 0 → ∀ (W' : Nat → Nat → Int32) (g : zHp), zSt X F o S D W' (u2 K 50 0 0) g p q → (∀ i, i < k → W' 100 i = 0) → Z X MX5_markFound (8, 320, h.2.1, h.2.2) g 11 [some (.ref (D 22 0)), some (.int (nI k)), none, none] [.ref (D 22 0), .int (nI k)] (fun (r : zRs) (h' : zHp) => r = .inl none ∧ ∃ D' W' K', (∀ r, r ≠ 24 → D' r = D r) ∧ zSt X F o S D' W' K' h' p q ∧ zFi S W' K' ∧ ∀ b, sFnd S b → zIn K' b) := by
    refine zdown (P := fun k => ∀ (W' : Nat → Nat → Int32) (g : zHp), zSt X F o S D W' (u2 K 50 0 0) g p q → (∀ i, i < k → W' 100 i = 0) → Z X MX5_markFound (8, 320, h.2.1, h.2.2) g 11 [some (.ref (D 22 0)), some (.int (nI k)), none, none] [.ref (D 22 0), .int (nI k)] (fun (r : zRs) (h' : zHp) => r = .inl none ∧ ∃ D' W' K', (∀ r, r ≠ 24 → D' r = D r) ∧ zSt X F o S D' W' K' h' p q ∧ zFi S W' K' ∧ ∀ b, sFnd S b → zIn K' b)) (sN S 23 0) (fun k hk ih W' g R' hw => ?_)
    have x22 := R'.1.1 22 0 ⟨rfl, by decide⟩
    have x15 := zRel_15 R'.1
    have A : zAl X g (D 16 0) (D 17 0) (W' 16 0) (sN S 23 0) (K 17 0) _ := zRel_al R'.1 (r := 16) (i := 0) (Or.inl ⟨rfl, by decide⟩)
    refine z_get x22 rfl rfl rfl rfl ?_
    refine z_get x15 rfl rfl rfl rfl ?_
    refine z_cV A.1 (c_size (z := .null) G A.1) KJx4a65c_size_8abf5 IJx4a65c_size_8abf5 VJx4a65c_size_8abf5 rfl rfl rfl PJx4a65c_size_8abf5 rfl rfl rfl rfl ?_
    refine z_br rfl rfl (fun c => ?_) (fun c => ?_) <;> (try dsimp only at c)
    · rw [n_le (by omega) (by omega)] at c
      refine z_go 90 rfl ?_
      refine k_mark2 G I hp rfl hQ _ _ 0 (Nat.zero_le _) g ⟨D, W', u2 K 50 0 0, fun _ _ => rfl, R', ⟨fun j hj => ?_, fun i j hi => ?_, fun k hk => ?_⟩, fun b b1 b2 ⟨v, v1, v2⟩ => by omega⟩
      · have : j < 0 := hj
        omega
      · have : i < 0 := hi
        omega
      · rw [hw k (by omega), zif_neg (fun ⟨j, hj, e⟩ => by have : j < 0 := hj; omega)]
    rw [n_le (by omega) (by omega)] at c
    have x18 : g.1 (D 18 k) = some (zBc S k (nI (sN S 18 k)) (S 22 k) (W' 100 k) (W' 101 k)) := R'.1.1 18 k (show k < sN S 23 0 by omega)
    refine z_go 90 rfl ?_
    refine z_get x22 rfl rfl rfl rfl ?_
    refine z_get x15 rfl rfl rfl rfl ?_
    refine z_go 90 rfl ?_
    refine z_cV A.1 (c_get G (b := D 18 k) k A (i_nI (by omega)) (by omega) (if_pos (by show k < sN S 23 0; omega))) KJx4a65c_get_915e3 IJx4a65c_get_915e3 VJx4a65c_get_915e3 rfl rfl rfl PJx4a65c_get_915e3 rfl rfl rfl rfl ?_
    refine z_cast x18 rfl rfl (by decide +kernel) ?_
    refine z_go 90 rfl ?_
    refine z_put x18 rfl rfl rfl rfl rfl rfl (by simp) ?_
    refine z_go 90 rfl ?_
    rw [show nI k + (1 : Int32) = nI (k + 1) from n_succ k]
    refine ih (by omega) _ _ (zSt_m0 R' (show k < sN S 23 0 by omega) 0) (fun i hi => ?_)
    by_cases e : i = k
    · rw [e, u2_at]
    · rw [u2_ni (by omega)]
      exact hw i (by omega)
  refine zm_of_z G KX5_markFound rfl rfl ?_
  refine z_go 90 rfl ?_
  refine z_get x22 rfl rfl rfl rfl ?_
  refine z_cV A.1 (c_clear G A) KJx4a65c_clear_da8c8 IJx4a65c_clear_da8c8 VJx4a65c_clear_da8c8 rfl rfl rfl PJx4a65c_clear_da8c8 rfl rfl rfl rfl ?_
  refine z_go 90 rfl ?_
  exact loop 0 (Nat.zero_le _) _ _ R1 (fun i hi => by omega)
end ZMF
