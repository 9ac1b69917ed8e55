section ZLT
variable {X : zCx} {F : Nat → Option va_E} {o p q : Nat} {S : zS} {D : Nat → Nat → Nat} {W : Nat → Nat → Int32} {K : Nat → Nat → Nat} {h : zHp} {cc : Nat}
theorem c_isLost (G : zG X) {a b : Nat} {fd w1 : Int32} {st : Nat} (hst : st < 2147483648) (P : Prop) (hh : h.1 a = some (zBc S b (nI st) fd (zif P 1 0) w1)) : ZM X MX0_isLost 0 100 [.ref a] h (zX h (some (.int (zif (st = 0 ∧ ¬ P) 1 0)))) := by
  refine zm_of_z G KX0_isLost rfl rfl ?_
  refine z_go 90 rfl ?_
  refine z_get hh rfl rfl rfl rfl ?_
  refine z_ite (p := st = 0) (fun e => ?_) (fun e => ?_)
  · rw [show nI st = (0 : Int32) by rw [e]; rfl]
    refine z_br rfl rfl (fun c => absurd c (by first | decide | (dsimp only; decide))) (fun _ => ?_)
    refine z_go 90 rfl ?_
    refine z_get hh rfl rfl rfl rfl ?_
    refine z_ite (p := P) (fun c => ?_) (fun c => ?_)
    · rw [zif_pos c]
      refine z_br rfl rfl (fun _ => ?_) (fun c => absurd c (by decide))
      refine z_go 90 rfl ?_
      exact z_zret rfl rfl rfl ⟨rfl, by rw [zif_neg (fun z => z.2 c)]⟩
    · rw [zif_neg c]
      refine z_br rfl rfl (fun c => absurd c (by first | decide | (dsimp only; decide))) (fun _ => ?_)
      refine z_go 90 rfl ?_
      exact z_zret rfl rfl rfl ⟨rfl, by rw [zif_pos ⟨e, c⟩]⟩
  · refine z_br rfl rfl (fun _ => ?_) (fun c => absurd c (by
      show ¬ nI st = nI 0
      rw [n_eq (by omega) (by omega)]
      exact e))
    refine z_go 90 rfl ?_
    exact z_zret rfl rfl rfl ⟨rfl, by rw [zif_neg (fun z => e z.1)]⟩
theorem zif_c {P Q : Prop} (e : P ↔ Q) : (zif P 1 0 : Int32) = zif Q 1 0 := by
  by_cases c : P
  · rw [zif_pos c, zif_pos (e.mp c)]
  · rw [zif_neg c, zif_neg (fun z => c (e.mpr z))]
theorem k_ledF (G : zG X) (I : sInv S cc) (R : zSt X F o S D W K h p q) {a : Nat} (ha : a < sN S 23 0) (A : Nat → Prop) (hw : ∀ k, k < sN S 23 0 → W 101 k = zif (A k) 1 0) : ZM X MX5_markLedToFrom 3 190 [.ref (D 22 0), .ref (D 18 a)] h (fun r h' => r = .inl none ∧ ∃ W', zSt X F o S D W' K h' p q ∧ (∀ k, W' 100 k = W 100 k) ∧ ∀ k, k < sN S 23 0 → W' 101 k = zif (A k ∨ (k ≠ a ∧ sN S 18 k = 0 ∧ sLd S (sN S 15 a) (sN S 16 a) k)) 1 0) := by
  have N2 := I.2.1.2.1
  have ib := I.2.2.2.2.1.1 a ha
  have hch := sCh_b (sN S 16 a)
  have loop : ∀ i, i ≤ sN S 16 a / 4 → ∀ (o3 : Option Value) (W1 : Nat → Nat → Int32) (g : zHp), zSt X F o S D W1 K g p q → (∀ k, W1 100 k = W 100 k) → (∀ k, k < sN S 23 0 → W1 101 k = zif (A k ∨ (k ≠ a ∧ sN S 18 k = 0 ∧ ∃ i', i' < i ∧ sN S 15 k ≤ sWv S (sN S 15 a + 4 * i') ∧ sWv S (sN S 15 a + 4 * i') < sN S 15 k + sN S 16 k)) 1 0) → Z X MX5_markLedToFrom (3, 190, h.2.1, h.2.2) g 9 [some (.ref (D 22 0)), some (.ref (D 18 a)), some (.int (nI (sN S 15 a + 4 * i))), o3] [.ref (D 18 a), .int (nI (sN S 15 a + 4 * i + 4))] (fun r h' => r = .inl none ∧ ∃ W', zSt X F o S D W' K h' p q ∧ (∀ k, W' 100 k = W 100 k) ∧ ∀ k, k < sN S 23 0 → W' 101 k = zif (A k ∨ (k ≠ a ∧ sN S 18 k = 0 ∧ sLd S (sN S 15 a) (sN S 16 a) k)) 1 0) := by
    refine zdown (P := fun i => ∀ (o3 : Option Value) (W1 : Nat → Nat → Int32) (g : zHp), zSt X F o S D W1 K g p q → (∀ k, W1 100 k = W 100 k) → (∀ k, k < sN S 23 0 → W1 101 k = zif (A k ∨ (k ≠ a ∧ sN S 18 k = 0 ∧ ∃ i', i' < i ∧ sN S 15 k ≤ sWv S (sN S 15 a + 4 * i') ∧ sWv S (sN S 15 a + 4 * i') < sN S 15 k + sN S 16 k)) 1 0) → Z X MX5_markLedToFrom (3, 190, h.2.1, h.2.2) g 9 [some (.ref (D 22 0)), some (.ref (D 18 a)), some (.int (nI (sN S 15 a + 4 * i))), o3] [.ref (D 18 a), .int (nI (sN S 15 a + 4 * i + 4))] (fun r h' => r = .inl none ∧ ∃ W', zSt X F o S D W' K h' p q ∧ (∀ k, W' 100 k = W 100 k) ∧ ∀ k, k < sN S 23 0 → W' 101 k = zif (A k ∨ (k ≠ a ∧ sN S 18 k = 0 ∧ sLd S (sN S 15 a) (sN S 16 a) k)) 1 0)) (sN S 16 a / 4) (fun i hi ih o3 W1 g Rg w0 w1 => ?_)
    have rc := Rg.1.1 18 a ha
    refine z_get rc rfl rfl rfl rfl ?_
    refine z_br rfl rfl (fun c => ?_) (fun c => ?_) <;> (try dsimp only at c)
    · rw [n_lt (by omega) (by omega)] at c
      refine z_vret rfl rfl ⟨rfl, W1, Rg, w0, fun k hk => ?_⟩
      rw [w1 k hk]
      refine zif_c ⟨?_, ?_⟩
      · rintro (z | ⟨z1, z2, i', e1, e2⟩)
        · exact Or.inl z
        · exact Or.inr ⟨z1, z2, i', by omega, e2⟩
      · rintro (z | ⟨z1, z2, i', e1, e2⟩)
        · exact Or.inl z
        · exact Or.inr ⟨z1, z2, i', by omega, e2⟩
    rw [n_lt (by omega) (by omega)] at c
    have ih := ih (by omega)
    have x22 := Rg.1.1 22 0 ⟨rfl, by decide⟩
    have next : ∀ (o3 : Option Value) (W2 : Nat → Nat → Int32) (g2 : zHp), zSt X F o S D W2 K g2 p q → (∀ k, W2 100 k = W 100 k) → (∀ k, k < sN S 23 0 → W2 101 k = zif (A k ∨ (k ≠ a ∧ sN S 18 k = 0 ∧ ∃ i', i' < i + 1 ∧ sN S 15 k ≤ sWv S (sN S 15 a + 4 * i') ∧ sWv S (sN S 15 a + 4 * i') < sN S 15 k + sN S 16 k)) 1 0) → Z X MX5_markLedToFrom (3, 190, h.2.1, h.2.2) g2 35 [some (.ref (D 22 0)), some (.ref (D 18 a)), some (.int (nI (sN S 15 a + 4 * i))), o3] [] (fun r h' => r = .inl none ∧ ∃ W', zSt X F o S D W' K h' p q ∧ (∀ k, W' 100 k = W 100 k) ∧ ∀ k, k < sN S 23 0 → W' 101 k = zif (A k ∨ (k ≠ a ∧ sN S 18 k = 0 ∧ sLd S (sN S 15 a) (sN S 16 a) k)) 1 0) := by
      intro o3 W2 g2 R2 u0 u1
      refine z_go 90 rfl ?_
      rw [show nI (sN S 15 a + 4 * i) + (4 : Int32) = nI (sN S 15 a + 4 * (i + 1)) from (n_add _ 4).trans (congrArg nI (by omega)), show nI (sN S 15 a + 4 * (i + 1)) + (4 : Int32) = nI (sN S 15 a + 4 * (i + 1) + 4) from n_add _ 4]
      exact ih o3 W2 g2 R2 u0 u1
    refine z_go 90 rfl ?_
    refine z_cV x22 (k_led G I Rg (sN S 15 a + 4 * i) (by omega)) KX5_ledToFrom IX5_ledToFrom VX5_ledToFrom rfl rfl rfl PX5_ledToFrom rfl rfl rfl rfl ?_
    cases hz : zld S (sN S 15 a + 4 * i) with
    | none =>
      refine z_go 3 rfl ?_
      refine next _ W1 g Rg w0 (fun k hk => ?_)
      rw [w1 k hk]
      refine zif_c ⟨?_, ?_⟩
      · rintro (z | ⟨z1, z2, i', e1, e2⟩)
        · exact Or.inl z
        · exact Or.inr ⟨z1, z2, i', by omega, e2⟩
      · rintro (z | ⟨z1, z2, i', e1, e2, e3⟩)
        · exact Or.inl z
        · by_cases e : i' = i
          · rw [e] at e2 e3
            have := (zld_iff I (sN S 15 a + 4 * i) k).mpr ⟨hk, z2, e2, e3⟩
            rw [hz] at this
            cases this
          · exact Or.inr ⟨z1, z2, i', by omega, e2, e3⟩
    | some b =>
      obtain ⟨h1, h2, h3, h4⟩ := (zld_iff I (sN S 15 a + 4 * i) b).mp hz
      have uq : ∀ b', b' < sN S 23 0 → sN S 18 b' = 0 → sN S 15 b' ≤ sWv S (sN S 15 a + 4 * i) → sWv S (sN S 15 a + 4 * i) < sN S 15 b' + sN S 16 b' → b' = b := fun b' q1 q2 q3 q4 => by
        have := (zld_iff I (sN S 15 a + 4 * i) b').mpr ⟨q1, q2, q3, q4⟩
        rw [hz] at this
        exact (Option.some.inj this).symm
      have x18 : g.1 (D 18 b) = some (zBc S b (nI (sN S 18 b)) (S 22 b) (W1 100 b) (W1 101 b)) := Rg.1.1 18 b h1
      show Z X MX5_markLedToFrom _ _ _ _ (.ref (D 18 b) :: _) _
      refine z_go 90 rfl ?_
      refine z_br rfl rfl (fun d => ?_) (fun d => ?_) <;> (try dsimp only at d)
      · have e : b = a := (Rg.1.2.1 18 b 18 a h1 ha d).2
        refine next _ W1 g Rg w0 (fun k hk => ?_)
        rw [w1 k hk]
        refine zif_c ⟨?_, ?_⟩
        · rintro (z | ⟨z1, z2, i', e1, e2⟩)
          · exact Or.inl z
          · exact Or.inr ⟨z1, z2, i', by omega, e2⟩
        · rintro (z | ⟨z1, z2, i', e1, e2, e3⟩)
          · exact Or.inl z
          · by_cases e9 : i' = i
            · rw [e9] at e2 e3
              have := uq k hk z2 e2 e3
              omega
            · exact Or.inr ⟨z1, z2, i', by omega, e2, e3⟩
      · have e : b ≠ a := fun z => d (by rw [z])
        refine z_go 90 rfl ?_
        refine z_put x18 rfl rfl rfl rfl rfl rfl (by simp) ?_
        refine next _ _ _ (zSt_m1 Rg h1 1) (fun k => ?_) (fun k hk => ?_)
        · rw [u2_nr (by decide)]
          exact w0 k
        · by_cases e8 : k = b
          · rw [e8, u2_at, zif_pos (Or.inr ⟨e, h2, i, by omega, h3, h4⟩)]
          · rw [u2_ni (by omega), w1 k hk]
            refine zif_c ⟨?_, ?_⟩
            · rintro (z | ⟨z1, z2, i', e1, e2⟩)
              · exact Or.inl z
              · exact Or.inr ⟨z1, z2, i', by omega, e2⟩
            · rintro (z | ⟨z1, z2, i', e1, e2, e3⟩)
              · exact Or.inl z
              · by_cases e9 : i' = i
                · rw [e9] at e2 e3
                  exact absurd (uq k hk z2 e2 e3) e8
                · exact Or.inr ⟨z1, z2, i', by omega, e2, e3⟩
  have rc := R.1.1 18 a ha
  refine zm_of_z G KX5_markLedToFrom rfl rfl ?_
  refine z_go 90 rfl ?_
  refine z_get rc rfl rfl rfl rfl ?_
  refine z_go 90 rfl ?_
  rw [show nI (sN S 15 a) + (4 : Int32) = nI (sN S 15 a + 4 * 0 + 4) from n_add _ 4]
  refine loop 0 (by omega) none W h R (fun _ => rfl) (fun k hk => ?_)
  rw [hw k hk]
  exact zif_c ⟨Or.inl, fun z => z.elim id (fun ⟨_, _, i', e1, _⟩ => by omega)⟩
theorem k_ledL (G : zG X) (I : sInv S cc) (R : zSt X F o S D W K h p q) (hl : ∀ k, k < sN S 23 0 → W 100 k = zif (sFnd S k) 1 0) : ZM X MX5_markLedToByLost 4 220 [.ref (D 22 0)] h (fun r h' => r = .inl none ∧ ∃ W', zSt X F o S D W' K h' p q ∧ (∀ k, W' 100 k = W 100 k) ∧ ∀ k, k < sN S 23 0 → W' 101 k = zif (∃ a, a < sN S 23 0 ∧ sLost S a ∧ k ≠ a ∧ sN S 18 k = 0 ∧ sLd S (sN S 15 a) (sN S 16 a) k) 1 0) := by
  have c1 := I.2.2.2.2.2.2.2.2.1
  have c2 := I.2.2.2.2.2.2.2.2.2.1
  have loop2 : ∀ i, i ≤ sN S 23 0 → ∀ (o2 : Option Value) (W1 : Nat → Nat → Int32) (g : zHp), zSt X F o S D W1 K g p q → (∀ k, W1 100 k = W 100 k) → (∀ k, k < sN S 23 0 → W1 101 k = zif (∃ a, a < i ∧ sLost S a ∧ k ≠ a ∧ sN S 18 k = 0 ∧ sLd S (sN S 15 a) (sN S 16 a) k) 1 0) → Z X MX5_markLedToByLost (4, 220, h.2.1, h.2.2) g 44 [some (.ref (D 22 0)), some (.int (nI i)), o2] [.ref (D 22 0), .int (nI i)] (fun r h' => r = .inl none ∧ ∃ W', zSt X F o S D W' K h' p q ∧ (∀ k, W' 100 k = W 100 k) ∧ ∀ k, k < sN S 23 0 → W' 101 k = zif (∃ a, a < sN S 23 0 ∧ sLost S a ∧ k ≠ a ∧ sN S 18 k = 0 ∧ sLd S (sN S 15 a) (sN S 16 a) k) 1 0) := by
    refine zdown (P := fun i => ∀ (o2 : Option Value) (W1 : Nat → Nat → Int32) (g : zHp), zSt X F o S D W1 K g p q → (∀ k, W1 100 k = W 100 k) → (∀ k, k < sN S 23 0 → W1 101 k = zif (∃ a, a < i ∧ sLost S a ∧ k ≠ a ∧ sN S 18 k = 0 ∧ sLd S (sN S 15 a) (sN S 16 a) k) 1 0) → Z X MX5_markLedToByLost (4, 220, h.2.1, h.2.2) g 44 [some (.ref (D 22 0)), some (.int (nI i)), o2] [.ref (D 22 0), .int (nI i)] (fun r h' => r = .inl none ∧ ∃ W', zSt X F o S D W' K h' p q ∧ (∀ k, W' 100 k = W 100 k) ∧ ∀ k, k < sN S 23 0 → W' 101 k = zif (∃ a, a < sN S 23 0 ∧ sLost S a ∧ k ≠ a ∧ sN S 18 k = 0 ∧ sLd S (sN S 15 a) (sN S 16 a) k) 1 0)) (sN S 23 0) (fun i hi ih o2 W1 g Rg w0 w1 => ?_)
    have x22 := Rg.1.1 22 0 ⟨rfl, by decide⟩
    have x15 := zRel_15 Rg.1
    have A : zAl X g (D 16 0) (D 17 0) (W1 16 0) (sN S 23 0) (K 17 0) (zes S D K 16 0) := zRel_al Rg.1 (r := 16) (i := 0) (Or.inl ⟨rfl, by decide⟩)
    refine z_get x22 rfl rfl rfl rfl ?_
    refine z_get x15 rfl rfl rfl rfl ?_
    refine z_cV A.1 (c_size (z := .null) G A.1) KJx4a65c_size_8abf5 IJx4a65c_size_8abf5 VJx4a65c_size_8abf5 rfl rfl rfl PJx4a65c_size_8abf5 rfl rfl rfl rfl ?_
    refine z_br rfl rfl (fun c => ?_) (fun c => ?_) <;> (try dsimp only at c)
    · rw [n_le (by omega) (by omega)] at c
      exact z_vret rfl rfl ⟨rfl, W1, Rg, w0, fun k hk => by rw [w1 k hk]; exact zif_c ⟨fun ⟨a, a1, a2⟩ => ⟨a, by omega, a2⟩, fun ⟨a, a1, a2⟩ => ⟨a, by omega, a2⟩⟩⟩
    rw [n_le (by omega) (by omega)] at c
    have ih := ih (by omega)
    have hi' : i < sN S 23 0 := by omega
    have l18 := sN_lt I.1 (k := 18) (i := i) rfl
    have x18 : g.1 (D 18 i) = some (zBc S i (nI (sN S 18 i)) (S 22 i) (zif (sFnd S i) 1 0) (W1 101 i)) := by
      have q18 := Rg.1.1 18 i hi'
      rw [zce18, w0 i, hl i hi'] at q18
      exact q18
    refine z_go 90 rfl ?_
    refine z_get x22 rfl rfl rfl rfl ?_
    refine z_get x15 rfl rfl rfl rfl ?_
    refine z_go 90 rfl ?_
    refine z_cV A.1 (c_get G (b := D 18 i) i A (i_nI (by omega)) (by omega) (if_pos (by show i < sN S 23 0; omega))) KJx4a65c_get_915e3 IJx4a65c_get_915e3 VJx4a65c_get_915e3 rfl rfl rfl PJx4a65c_get_915e3 rfl rfl rfl rfl ?_
    refine z_cast x18 rfl rfl (by decide +kernel) ?_
    refine z_go 90 rfl ?_
    refine z_cV x18 (c_isLost G (by omega) (sFnd S i) x18) KX0_isLost IX0_isLost VX0_isLost rfl rfl rfl PX0_isLost rfl rfl rfl rfl ?_
    refine z_ite (p := sN S 18 i = 0 ∧ ¬ sFnd S i) (fun e => ?_) (fun e => ?_)
    · rw [zif_pos e]
      refine z_br rfl rfl (fun c => absurd c (by first | decide | (dsimp only; decide))) (fun _ => ?_)
      refine z_go 90 rfl ?_
      refine z_cVP x22 (k_ledF G I Rg hi' _ w1) KX5_markLedToFrom IX5_markLedToFrom VX5_markLedToFrom rfl rfl rfl PX5_markLedToFrom rfl rfl rfl rfl ?_
      intro g2 P2
      obtain ⟨W2, R2, u0, u1⟩ := P2
      refine z_go 90 rfl ?_
      rw [show nI i + (1 : Int32) = nI (i + 1) from n_succ i]
      refine ih _ W2 g2 R2 (fun k => by rw [u0, w0]) (fun k hk => ?_)
      rw [u1 k hk]
      refine zif_c ⟨?_, ?_⟩
      · rintro (⟨a, a1, a2⟩ | ⟨a1, a2, a3⟩)
        · exact ⟨a, by omega, a2⟩
        · exact ⟨i, by omega, e, a1, a2, a3⟩
      · rintro ⟨a, a1, a2, a3⟩
        by_cases e9 : a = i
        · rw [e9] at a3
          exact Or.inr a3
        · exact Or.inl ⟨a, by omega, a2, a3⟩
    · rw [zif_neg e]
      refine z_br rfl rfl (fun _ => ?_) (fun c => absurd c (by first | decide | (dsimp only; decide)))
      refine z_go 90 rfl ?_
      rw [show nI i + (1 : Int32) = nI (i + 1) from n_succ i]
      refine ih _ W1 g Rg w0 (fun k hk => ?_)
      rw [w1 k hk]
      refine zif_c ⟨fun ⟨a, a1, a2⟩ => ⟨a, by omega, a2⟩, fun ⟨a, a1, a2, a3⟩ => ?_⟩
      by_cases e9 : a = i
      · rw [e9] at a2
        exact absurd a2 e
      · exact ⟨a, by omega, a2, a3⟩
  have loop1 : ∀ i, i ≤ sN S 23 0 → ∀ (W1 : Nat → Nat → Int32) (g : zHp), zSt X F o S D W1 K g p q → (∀ k, W1 100 k = W 100 k) → (∀ k, k < i → W1 101 k = 0) → Z X MX5_markLedToByLost (4, 220, h.2.1, h.2.2) g 4 [some (.ref (D 22 0)), some (.int (nI i)), none] [.ref (D 22 0), .int (nI i)] (fun r h' => r = .inl none ∧ ∃ W', zSt X F o S D W' K h' p q ∧ (∀ k, W' 100 k = W 100 k) ∧ ∀ k, k < sN S 23 0 → W' 101 k = zif (∃ a, a < sN S 23 0 ∧ sLost S a ∧ k ≠ a ∧ sN S 18 k = 0 ∧ sLd S (sN S 15 a) (sN S 16 a) k) 1 0) := by
    refine zdown (P := fun i => ∀ (W1 : Nat → Nat → Int32) (g : zHp), zSt X F o S D W1 K g p q → (∀ k, W1 100 k = W 100 k) → (∀ k, k < i → W1 101 k = 0) → Z X MX5_markLedToByLost (4, 220, h.2.1, h.2.2) g 4 [some (.ref (D 22 0)), some (.int (nI i)), none] [.ref (D 22 0), .int (nI i)] (fun r h' => r = .inl none ∧ ∃ W', zSt X F o S D W' K h' p q ∧ (∀ k, W' 100 k = W 100 k) ∧ ∀ k, k < sN S 23 0 → W' 101 k = zif (∃ a, a < sN S 23 0 ∧ sLost S a ∧ k ≠ a ∧ sN S 18 k = 0 ∧ sLd S (sN S 15 a) (sN S 16 a) k) 1 0)) (sN S 23 0) (fun i hi ih W1 g Rg w0 w1 => ?_)
    have x22 := Rg.1.1 22 0 ⟨rfl, by decide⟩
    have x15 := zRel_15 Rg.1
    have A : zAl X g (D 16 0) (D 17 0) (W1 16 0) (sN S 23 0) (K 17 0) (zes S D K 16 0) := zRel_al Rg.1 (r := 16) (i := 0) (Or.inl ⟨rfl, by decide⟩)
    refine z_get x22 rfl rfl rfl rfl ?_
    refine z_get x15 rfl rfl rfl rfl ?_
    refine z_cV A.1 (c_size (z := .null) G A.1) KJx4a65c_size_8abf5 IJx4a65c_size_8abf5 VJx4a65c_size_8abf5 rfl rfl rfl PJx4a65c_size_8abf5 rfl rfl rfl rfl ?_
    refine z_br rfl rfl (fun c => ?_) (fun c => ?_) <;> (try dsimp only at c)
    · rw [n_le (by omega) (by omega)] at c
      refine z_go 90 rfl ?_
      exact loop2 0 (Nat.zero_le _) _ W1 g Rg w0 (fun k hk => by rw [w1 k (by omega), zif_neg (fun ⟨a, a1, _⟩ => by omega)])
    rw [n_le (by omega) (by omega)] at c
    have x18 : g.1 (D 18 i) = some (zBc S i (nI (sN S 18 i)) (S 22 i) (W1 100 i) (W1 101 i)) := Rg.1.1 18 i (show i < sN S 23 0 by omega)
    refine z_go 90 rfl ?_
    refine z_get x22 rfl rfl rfl rfl ?_
    refine z_get x15 rfl rfl rfl rfl ?_
    refine z_go 90 rfl ?_
    refine z_cV A.1 (c_get G (b := D 18 i) i A (i_nI (by omega)) (by omega) (if_pos (by show i < sN S 23 0; omega))) KJx4a65c_get_915e3 IJx4a65c_get_915e3 VJx4a65c_get_915e3 rfl rfl rfl PJx4a65c_get_915e3 rfl rfl rfl rfl ?_
    refine z_cast x18 rfl rfl (by decide +kernel) ?_
    refine z_go 90 rfl ?_
    refine z_put x18 rfl rfl rfl rfl rfl rfl (by simp) ?_
    refine z_go 90 rfl ?_
    rw [show nI i + (1 : Int32) = nI (i + 1) from n_succ i]
    refine ih (by omega) _ _ (zSt_m1 Rg (show i < sN S 23 0 by omega) 0) (fun k => by rw [u2_nr (by decide)]; exact w0 k) (fun k hk => ?_)
    by_cases e : k = i
    · rw [e, u2_at]
    · rw [u2_ni (by omega)]
      exact w1 k (by omega)
  refine zm_of_z G KX5_markLedToByLost rfl rfl ?_
  refine z_go 90 rfl ?_
  exact loop1 0 (Nat.zero_le _) W h R (fun _ => rfl) (fun k hk => by omega)
end ZLT
