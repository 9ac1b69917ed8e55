section ZFF
variable {X : zCx} {F : Nat → Option va_E} {o p q : Nat} {S : zS} {D D' : Nat → Nat → Nat} {W W' : Nat → Nat → Int32} {K K' : Nat → Nat → Nat} {h : zHp} {cc : Nat}
/-- a later stage of the found row -/
def zFE (D K D' K' : Nat → Nat → Nat) : Prop := (∀ r, r ≠ 24 → D' r = D r) ∧ K 50 0 ≤ K' 50 0 ∧ ∀ j, j < K 50 0 → K' 51 j = K 51 j
theorem zFE_r : zFE D K D K := ⟨fun _ _ => rfl, Nat.le_refl _, fun _ _ => rfl⟩
theorem zFE_t {D2 K2 : Nat → Nat → Nat} (a : zFE D K D' K') (b : zFE D' K' D2 K2) : zFE D K D2 K2 := ⟨fun r hr => by rw [b.1 r hr, a.1 r hr], Nat.le_trans a.2.1 b.2.1, fun j hj => by rw [b.2.2 j (by have := a.2.1; omega), a.2.2 j hj]⟩

theorem k_mark (G : zG X) (I : sInv S cc) (R : zSt X F o S D W K h p q) (hp : p ≤ 500000 ∧ q ≤ 7000000) (fi : zFi S W K) {b : Nat} (hb : b < sN S 23 0) (hl : sN S 18 b = 0) (hf : sFnd S b) (hno : ¬ ∃ j, j < K 50 0 ∧ K 51 j = b) (wf : ∀ a e, h.1 a = some e → a < h.2.1) : ZM X MJx4a65c_add_9ea2d 6 262 [.ref (D 23 0), .ref (D 18 b)] (zset h (D 18 b) (zBc S b (nI (sN S 18 b)) (S 22 b) 1 (W 101 b))) (fun r h' => r = .inl (some (.int 1)) ∧ ∃ D' W' K', zFE D K D' K' ∧ zSt X F o S D' W' K' h' p q ∧ zFi S W' K' ∧ ∃ j, j < K' 50 0 ∧ K' 51 j = b) := by
  have c1 := I.2.2.2.2.2.2.2.2.1
  have c2 := I.2.2.2.2.2.2.2.2.2.1
  have R1 := zSt_m0 R hb 1
  have hls : zls S 23 0 := Or.inl ⟨rfl, by decide⟩
  have nl := zFi_live fi
  have nle := sLive_le S (sN S 23 0)
  have hn : K 50 0 < 512 := by
    have f1 := zcnt_n (f := fun j => if j = K 50 0 then b else K 51 j) (N := sN S 23 0) (K 50 0 + 1) (fun j hj => by
      by_cases c : j = K 50 0
      · rw [if_pos c]; exact hb
      · rw [if_neg c]; exact (fi.1 j (by omega)).1) (fun i j hi hj z => by
      by_cases c : i = K 50 0
      · by_cases d : j = K 50 0
        · omega
        · rw [if_pos c, if_neg d] at z
          exact absurd ⟨j, by omega, z.symm⟩ hno
      · by_cases d : j = K 50 0
        · rw [if_neg c, if_pos d] at z
          exact absurd ⟨i, by omega, z⟩ hno
        · rw [if_neg c, if_neg d] at z
          exact fi.2.1 i j (by omega) (by omega) z)
    have f2 := zSum_le (g := fun k => zif (∃ j, j < K 50 0 + 1 ∧ (if j = K 50 0 then b else K 51 j) = k) 1 0) (b := 1) (fun k => by
      by_cases c : ∃ j, j < K 50 0 + 1 ∧ (if j = K 50 0 then b else K 51 j) = k
      · rw [zif_pos c]; exact Nat.le_refl _
      · rw [zif_neg c]; exact Nat.zero_le _) (sN S 23 0)
    omega
  have A : zAl X _ (D 23 0) (D 24 0) (W 23 0) (K 50 0) (K 24 0) (zes S D K 23 0) := zRel_al R1.1 (r := 23) (i := 0) hls
  have lim := zSt_lim R hp
  have wf1 : ∀ a e, (zset h (D 18 b) (zBc S b (nI (sN S 18 b)) (S 22 b) 1 (W 101 b))).1 a = some e → a < h.2.1 := fun a e ha => by
    by_cases c : a = D 18 b
    · rw [c]
      exact wf _ _ (R.1.1 18 b hb)
    · rw [zset_ne _ _ c] at ha
      exact wf a e ha
  have P := c_add G A (zset_at _ _ _) zk1 (zRel_el R1.1 I R1.2.2.1 hls) (fun e => ⟨by show h.2.1 + 1 ≤ _; omega, by show h.2.2 + zgrow (K 24 0) ≤ _; have := zgrow_l (cap := K 24 0) (by omega); omega⟩)
  refine zM_mono P (fun r h' z => ?_)
  obtain ⟨rfl, rfl⟩ := z
  obtain ⟨D', W', K', g1, g2, g3, g4, R2⟩ := zSt_fnd R1 wf1 hb hn
  have k51 : ∀ j, j < K 50 0 → K' 51 j = K 51 j := fun j hj => by rw [g4, if_neg (by omega)]
  refine ⟨rfl, D', W', K', ⟨g1, by omega, k51⟩, R2, ⟨fun j hj => ?_, fun i j hi hj z => ?_, fun k hk => ?_⟩, K 50 0, by omega, by rw [g4, if_pos rfl]⟩
  · rw [g4]
    by_cases c : j = K 50 0
    · rw [if_pos c]
      exact ⟨hb, hl, hf⟩
    · rw [if_neg c]
      exact fi.1 j (by omega)
  · rw [g4, g4] at z
    by_cases c : i = K 50 0
    · by_cases d : j = K 50 0
      · omega
      · rw [if_pos c, if_neg d] at z
        exact absurd ⟨j, by omega, z.symm⟩ hno
    · by_cases d : j = K 50 0
      · rw [if_neg c, if_pos d] at z
        exact absurd ⟨i, by omega, z⟩ hno
      · rw [if_neg c, if_neg d] at z
        exact fi.2.1 i j (by omega) (by omega) z
  · rw [g2]
    by_cases c : k = b
    · rw [c, u2_at, zif_pos ⟨K 50 0, by omega, by rw [g4, if_pos rfl]⟩]
    · rw [u2_ni (by omega), fi.2.2 k hk]
      by_cases d : ∃ j, j < K 50 0 ∧ K 51 j = k
      · obtain ⟨j, hj, e⟩ := d
        rw [zif_pos ⟨j, hj, e⟩, zif_pos ⟨j, by omega, by rw [g4, if_neg (by omega)]; exact e⟩]
      · rw [zif_neg d, zif_neg (fun ⟨j, hj, e⟩ => by
          rw [g4] at e
          by_cases c2 : j = K 50 0
          · rw [if_pos c2] at e
            exact c e.symm
          · rw [if_neg c2] at e
            exact d ⟨j, by omega, e⟩)]
theorem k_find8 (G : zG X) (I : sInv S cc) (R : zSt X F o S D W K h p q) (hp : p ≤ 500000 ∧ q ≤ 7000000) (fi : zFi S W K) {ra A n : Nat} (rd : ∀ D' W' K' h', (∀ r, r ≠ 24 → D' r = D r) → zSt X F o S D' W' K' h' p q → ∃ x0 x1 rest, h'.1 ra = some (.inr (8, x0 :: x1 :: .int (nI A) :: .int (nI n) :: .int (nI (A + n)) :: rest))) (hA : A + n ≤ sN S 1 0) (src : ∀ b, b < sN S 23 0 → sN S 18 b = 0 → sLd S A n b → sFnd S b) : ZM X MX5_findFrom 7 290 [.ref (D 22 0), .ref ra] h (fun r h' => r = .inl none ∧ ∃ D' W' K', zFE D K D' K' ∧ zSt X F o S D' W' K' h' p q ∧ zFi S W' K' ∧ ∀ b, b < sN S 23 0 → sN S 18 b = 0 → sLd S A n b → ∃ j, j < K' 50 0 ∧ K' 51 j = b) := by
  have N2 := I.2.1.2.1
  have loop : ∀ i, i ≤ n / 4 → ∀ (o3 : Option Value) (D1 : Nat → Nat → Nat) (W1 : Nat → Nat → Int32) (K1 : Nat → Nat → Nat) (g : zHp), zFE D K D1 K1 → zSt X F o S D1 W1 K1 g p q → zFi S W1 K1 → (∀ b, b < sN S 23 0 → sN S 18 b = 0 → (∃ i', i' < i ∧ sN S 15 b ≤ sWv S (A + 4 * i') ∧ sWv S (A + 4 * i') < sN S 15 b + sN S 16 b) → ∃ j, j < K1 50 0 ∧ K1 51 j = b) → Z X MX5_findFrom (7, 290, h.2.1, h.2.2) g 9 [some (.ref (D 22 0)), some (.ref ra), some (.int (nI (A + 4 * i))), o3] [.ref ra, .int (nI (A + 4 * i + 4))] (fun r h' => r = .inl none ∧ ∃ D' W' K', zFE D K D' K' ∧ zSt X F o S D' W' K' h' p q ∧ zFi S W' K' ∧ ∀ b, b < sN S 23 0 → sN S 18 b = 0 → sLd S A n b → ∃ j, j < K' 50 0 ∧ K' 51 j = b) := by
    refine zdown (P := fun i => ∀ (o3 : Option Value) (D1 : Nat → Nat → Nat) (W1 : Nat → Nat → Int32) (K1 : Nat → Nat → Nat) (g : zHp), zFE D K D1 K1 → zSt X F o S D1 W1 K1 g p q → zFi S W1 K1 → (∀ b, b < sN S 23 0 → sN S 18 b = 0 → (∃ i', i' < i ∧ sN S 15 b ≤ sWv S (A + 4 * i') ∧ sWv S (A + 4 * i') < sN S 15 b + sN S 16 b) → ∃ j, j < K1 50 0 ∧ K1 51 j = b) → Z X MX5_findFrom (7, 290, h.2.1, h.2.2) g 9 [some (.ref (D 22 0)), some (.ref ra), some (.int (nI (A + 4 * i))), o3] [.ref ra, .int (nI (A + 4 * i + 4))] (fun r h' => r = .inl none ∧ ∃ D' W' K', zFE D K D' K' ∧ zSt X F o S D' W' K' h' p q ∧ zFi S W' K' ∧ ∀ b, b < sN S 23 0 → sN S 18 b = 0 → sLd S A n b → ∃ j, j < K' 50 0 ∧ K' 51 j = b)) (n / 4) (fun i hi ih o3 D1 W1 K1 g fe Rg fg cg => ?_)
    obtain ⟨x0, x1, rest, rc⟩ := rd D1 W1 K1 g fe.1 Rg
    refine z_get rc rfl rfl rfl rfl ?_
    refine z_br rfl rfl (fun c => ?_) (fun c => ?_) <;> (try dsimp only at c)
    · rw [n_lt (by omega) (by omega)] at c
      exact z_vret rfl rfl ⟨rfl, D1, W1, K1, fe, Rg, fg, fun b h1 h2 ⟨i', e1, e2, e3⟩ => cg b h1 h2 ⟨i', by omega, e2, e3⟩⟩
    rw [n_lt (by omega) (by omega)] at c
    have ih := ih (by omega)
    have x22 := Rg.1.1 22 0 ⟨rfl, by decide⟩
    rw [fe.1 22 (by decide)] at x22
    have ld := k_led G I Rg (A + 4 * i) (by omega)
    rw [fe.1 22 (by decide), fe.1 18 (by decide)] at ld
    have next : ∀ (o3 : Option Value) (D2 : Nat → Nat → Nat) (W2 : Nat → Nat → Int32) (K2 : Nat → Nat → Nat) (g2 : zHp), zFE D K D2 K2 → zSt X F o S D2 W2 K2 g2 p q → zFi S W2 K2 → (∀ b, b < sN S 23 0 → sN S 18 b = 0 → (∃ i', i' < i + 1 ∧ sN S 15 b ≤ sWv S (A + 4 * i') ∧ sWv S (A + 4 * i') < sN S 15 b + sN S 16 b) → ∃ j, j < K2 50 0 ∧ K2 51 j = b) → Z X MX5_findFrom (7, 290, h.2.1, h.2.2) g2 46 [some (.ref (D 22 0)), some (.ref ra), some (.int (nI (A + 4 * i))), o3] [] (fun r h' => r = .inl none ∧ ∃ D' W' K', zFE D K D' K' ∧ zSt X F o S D' W' K' h' p q ∧ zFi S W' K' ∧ ∀ b, b < sN S 23 0 → sN S 18 b = 0 → sLd S A n b → ∃ j, j < K' 50 0 ∧ K' 51 j = b) := by
      intro o3 D2 W2 K2 g2 fe2 R2 fi2 c2
      refine z_go 90 rfl ?_
      rw [show nI (A + 4 * i) + (4 : Int32) = nI (A + 4 * (i + 1)) from (n_add _ 4).trans (congrArg nI (by omega)), show nI (A + 4 * (i + 1)) + (4 : Int32) = nI (A + 4 * (i + 1) + 4) from n_add _ 4]
      exact ih o3 D2 W2 K2 g2 fe2 R2 fi2 c2
    refine z_go 90 rfl ?_
    refine z_cV x22 ld KX5_ledToFrom IX5_ledToFrom VX5_ledToFrom rfl rfl rfl PX5_ledToFrom rfl rfl rfl rfl ?_
    cases hz : zld S (A + 4 * i) with
    | none =>
      refine z_go 3 rfl ?_
      refine next _ D1 W1 K1 g fe Rg fg (fun b h1 h2 ⟨i', e1, e2, e3⟩ => ?_)
      by_cases e : i' = i
      · rw [e] at e2 e3
        have := (zld_iff I (A + 4 * i) b).mpr ⟨h1, h2, e2, e3⟩
        rw [hz] at this
        cases this
      · exact cg b h1 h2 ⟨i', by omega, e2, e3⟩
    | some b =>
      obtain ⟨h1, h2, h3, h4⟩ := (zld_iff I (A + 4 * i) b).mp hz
      have uq : ∀ b', b' < sN S 23 0 → sN S 18 b' = 0 → sN S 15 b' ≤ sWv S (A + 4 * i) → sWv S (A + 4 * i) < sN S 15 b' + sN S 16 b' → b' = b := fun b' q1 q2 q3 q4 => by
        have := (zld_iff I (A + 4 * i) b').mpr ⟨q1, q2, q3, q4⟩
        rw [hz] at this
        exact (Option.some.inj this).symm
      have x18 := Rg.1.1 18 b h1
      rw [fe.1 18 (by decide)] at x18
      have x18 : g.1 (D 18 b) = some (zBc S b (nI (sN S 18 b)) (S 22 b) (W1 100 b) (W1 101 b)) := x18
      show Z X MX5_findFrom _ _ _ _ (.ref (D 18 b) :: _) _
      refine z_go 4 rfl ?_
      refine z_get x18 rfl rfl rfl rfl ?_
      refine z_ite (p := ∃ j, j < K1 50 0 ∧ K1 51 j = b) (fun d => ?_) (fun d => ?_)
      · rw [show W1 100 b = 1 by rw [fg.2.2 b h1, zif_pos d]]
        refine z_br rfl rfl (fun _ => ?_) (fun c => absurd c (by decide))
        refine next _ D1 W1 K1 g fe Rg fg (fun b' q1 q2 ⟨i', e1, e2, e3⟩ => ?_)
        by_cases e : i' = i
        · rw [e] at e2 e3
          rw [uq b' q1 q2 e2 e3]
          exact d
        · exact cg b' q1 q2 ⟨i', by omega, e2, e3⟩
      · rw [show W1 100 b = 0 by rw [fg.2.2 b h1, zif_neg d]]
        refine z_br rfl rfl (fun c => absurd c (by first | decide | (dsimp only; decide))) (fun _ => ?_)
        refine z_go 90 rfl ?_
        refine z_wf fun wf0 _ => ?_
        have wf : ∀ a e, g.1 a = some e → a < g.2.1 := fun a e he => (wf0 a e he).2
        refine z_put x18 rfl rfl rfl rfl rfl rfl (by simp) ?_
        refine z_go 90 rfl ?_
        have R1 := zSt_m0 Rg h1 1
        have y22 := R1.1.1 22 0 ⟨rfl, by decide⟩
        have y23 := R1.1.1 23 0 ⟨rfl, by decide⟩
        have mk := k_mark G I Rg hp fg h1 h2 (src b h1 h2 ⟨i, by omega, h3, h4⟩) d wf
        have e18 : D1 18 = D 18 := fe.1 18 (by decide)
        have e22 : D1 22 = D 22 := fe.1 22 (by decide)
        have e23 : D1 23 = D 23 := fe.1 23 (by decide)
        rw [e18, e22] at y22
        rw [e18, e23] at y23
        rw [e18, e23] at mk
        refine z_get y22 rfl rfl rfl rfl ?_
        refine z_go 90 rfl ?_
        rw [e23]
        refine z_cVP y23 mk KJx4a65c_add_9ea2d IJx4a65c_add_9ea2d VJx4a65c_add_9ea2d rfl rfl rfl PJx4a65c_add_9ea2d rfl rfl rfl rfl ?_
        intro g3 P3
        obtain ⟨D3, W3, K3, fe3, R3, fi3, q3⟩ := P3
        refine z_go 90 rfl ?_
        rw [show nI (A + 4 * i) + (4 : Int32) = nI (A + 4 * (i + 1)) from (n_add _ 4).trans (congrArg nI (by omega)), show nI (A + 4 * (i + 1)) + (4 : Int32) = nI (A + 4 * (i + 1) + 4) from n_add _ 4]
        refine ih _ D3 W3 K3 g3 (zFE_t fe fe3) R3 fi3 (fun b' q1 q2 ⟨i', e1, e2, e3⟩ => ?_)
        by_cases e : i' = i
        · rw [e] at e2 e3
          rw [uq b' q1 q2 e2 e3]
          exact q3
        · obtain ⟨j, j1, j2⟩ := cg b' q1 q2 ⟨i', by omega, e2, e3⟩
          exact ⟨j, by have := fe3.2.1; omega, by rw [fe3.2.2 j j1]; exact j2⟩
  obtain ⟨x0, x1, rest, rc⟩ := rd D W K h (fun _ _ => rfl) R
  refine zm_of_z G KX5_findFrom rfl rfl ?_
  refine z_go 90 rfl ?_
  refine z_get rc rfl rfl rfl rfl ?_
  refine z_go 90 rfl ?_
  rw [show nI A + (4 : Int32) = nI (A + 4 * 0 + 4) from n_add A 4]
  exact loop 0 (by omega) none D W K h zFE_r R fi (fun b h1 h2 ⟨i', e1, _⟩ => by omega)
theorem k_find10 (G : zG X) (I : sInv S cc) (R : zSt X F o S D W K h p q) (hp : p ≤ 500000 ∧ q ≤ 7000000) (fi : zFi S W K) {ra A n : Nat} (rd : ∀ D' W' K' h', (∀ r, r ≠ 24 → D' r = D r) → zSt X F o S D' W' K' h' p q → ∃ x0 x1 rest, h'.1 ra = some (.inr (10, x0 :: x1 :: .int (nI A) :: .int (nI n) :: .int (nI (A + n)) :: rest))) (hA : A + n ≤ sN S 1 0) (src : ∀ b, b < sN S 23 0 → sN S 18 b = 0 → sLd S A n b → sFnd S b) : ZM X MX5_findFrom 7 290 [.ref (D 22 0), .ref ra] h (fun r h' => r = .inl none ∧ ∃ D' W' K', zFE D K D' K' ∧ zSt X F o S D' W' K' h' p q ∧ zFi S W' K' ∧ ∀ b, b < sN S 23 0 → sN S 18 b = 0 → sLd S A n b → ∃ j, j < K' 50 0 ∧ K' 51 j = b) := by
  have N2 := I.2.1.2.1
  have loop : ∀ i, i ≤ n / 4 → ∀ (o3 : Option Value) (D1 : Nat → Nat → Nat) (W1 : Nat → Nat → Int32) (K1 : Nat → Nat → Nat) (g : zHp), zFE D K D1 K1 → zSt X F o S D1 W1 K1 g p q → zFi S W1 K1 → (∀ b, b < sN S 23 0 → sN S 18 b = 0 → (∃ i', i' < i ∧ sN S 15 b ≤ sWv S (A + 4 * i') ∧ sWv S (A + 4 * i') < sN S 15 b + sN S 16 b) → ∃ j, j < K1 50 0 ∧ K1 51 j = b) → Z X MX5_findFrom (7, 290, h.2.1, h.2.2) g 9 [some (.ref (D 22 0)), some (.ref ra), some (.int (nI (A + 4 * i))), o3] [.ref ra, .int (nI (A + 4 * i + 4))] (fun r h' => r = .inl none ∧ ∃ D' W' K', zFE D K D' K' ∧ zSt X F o S D' W' K' h' p q ∧ zFi S W' K' ∧ ∀ b, b < sN S 23 0 → sN S 18 b = 0 → sLd S A n b → ∃ j, j < K' 50 0 ∧ K' 51 j = b) := by
    refine zdown (P := fun i => ∀ (o3 : Option Value) (D1 : Nat → Nat → Nat) (W1 : Nat → Nat → Int32) (K1 : Nat → Nat → Nat) (g : zHp), zFE D K D1 K1 → zSt X F o S D1 W1 K1 g p q → zFi S W1 K1 → (∀ b, b < sN S 23 0 → sN S 18 b = 0 → (∃ i', i' < i ∧ sN S 15 b ≤ sWv S (A + 4 * i') ∧ sWv S (A + 4 * i') < sN S 15 b + sN S 16 b) → ∃ j, j < K1 50 0 ∧ K1 51 j = b) → Z X MX5_findFrom (7, 290, h.2.1, h.2.2) g 9 [some (.ref (D 22 0)), some (.ref ra), some (.int (nI (A + 4 * i))), o3] [.ref ra, .int (nI (A + 4 * i + 4))] (fun r h' => r = .inl none ∧ ∃ D' W' K', zFE D K D' K' ∧ zSt X F o S D' W' K' h' p q ∧ zFi S W' K' ∧ ∀ b, b < sN S 23 0 → sN S 18 b = 0 → sLd S A n b → ∃ j, j < K' 50 0 ∧ K' 51 j = b)) (n / 4) (fun i hi ih o3 D1 W1 K1 g fe Rg fg cg => ?_)
    obtain ⟨x0, x1, rest, rc⟩ := rd D1 W1 K1 g fe.1 Rg
    refine z_get rc rfl rfl rfl rfl ?_
    refine z_br rfl rfl (fun c => ?_) (fun c => ?_) <;> (try dsimp only at c)
    · rw [n_lt (by omega) (by omega)] at c
      exact z_vret rfl rfl ⟨rfl, D1, W1, K1, fe, Rg, fg, fun b h1 h2 ⟨i', e1, e2, e3⟩ => cg b h1 h2 ⟨i', by omega, e2, e3⟩⟩
    rw [n_lt (by omega) (by omega)] at c
    have ih := ih (by omega)
    have x22 := Rg.1.1 22 0 ⟨rfl, by decide⟩
    rw [fe.1 22 (by decide)] at x22
    have ld := k_led G I Rg (A + 4 * i) (by omega)
    rw [fe.1 22 (by decide), fe.1 18 (by decide)] at ld
    have next : ∀ (o3 : Option Value) (D2 : Nat → Nat → Nat) (W2 : Nat → Nat → Int32) (K2 : Nat → Nat → Nat) (g2 : zHp), zFE D K D2 K2 → zSt X F o S D2 W2 K2 g2 p q → zFi S W2 K2 → (∀ b, b < sN S 23 0 → sN S 18 b = 0 → (∃ i', i' < i + 1 ∧ sN S 15 b ≤ sWv S (A + 4 * i') ∧ sWv S (A + 4 * i') < sN S 15 b + sN S 16 b) → ∃ j, j < K2 50 0 ∧ K2 51 j = b) → Z X MX5_findFrom (7, 290, h.2.1, h.2.2) g2 46 [some (.ref (D 22 0)), some (.ref ra), some (.int (nI (A + 4 * i))), o3] [] (fun r h' => r = .inl none ∧ ∃ D' W' K', zFE D K D' K' ∧ zSt X F o S D' W' K' h' p q ∧ zFi S W' K' ∧ ∀ b, b < sN S 23 0 → sN S 18 b = 0 → sLd S A n b → ∃ j, j < K' 50 0 ∧ K' 51 j = b) := by
      intro o3 D2 W2 K2 g2 fe2 R2 fi2 c2
      refine z_go 90 rfl ?_
      rw [show nI (A + 4 * i) + (4 : Int32) = nI (A + 4 * (i + 1)) from (n_add _ 4).trans (congrArg nI (by omega)), show nI (A + 4 * (i + 1)) + (4 : Int32) = nI (A + 4 * (i + 1) + 4) from n_add _ 4]
      exact ih o3 D2 W2 K2 g2 fe2 R2 fi2 c2
    refine z_go 90 rfl ?_
    refine z_cV x22 ld KX5_ledToFrom IX5_ledToFrom VX5_ledToFrom rfl rfl rfl PX5_ledToFrom rfl rfl rfl rfl ?_
    cases hz : zld S (A + 4 * i) with
    | none =>
      refine z_go 3 rfl ?_
      refine next _ D1 W1 K1 g fe Rg fg (fun b h1 h2 ⟨i', e1, e2, e3⟩ => ?_)
      by_cases e : i' = i
      · rw [e] at e2 e3
        have := (zld_iff I (A + 4 * i) b).mpr ⟨h1, h2, e2, e3⟩
        rw [hz] at this
        cases this
      · exact cg b h1 h2 ⟨i', by omega, e2, e3⟩
    | some b =>
      obtain ⟨h1, h2, h3, h4⟩ := (zld_iff I (A + 4 * i) b).mp hz
      have uq : ∀ b', b' < sN S 23 0 → sN S 18 b' = 0 → sN S 15 b' ≤ sWv S (A + 4 * i) → sWv S (A + 4 * i) < sN S 15 b' + sN S 16 b' → b' = b := fun b' q1 q2 q3 q4 => by
        have := (zld_iff I (A + 4 * i) b').mpr ⟨q1, q2, q3, q4⟩
        rw [hz] at this
        exact (Option.some.inj this).symm
      have x18 := Rg.1.1 18 b h1
      rw [fe.1 18 (by decide)] at x18
      have x18 : g.1 (D 18 b) = some (zBc S b (nI (sN S 18 b)) (S 22 b) (W1 100 b) (W1 101 b)) := x18
      show Z X MX5_findFrom _ _ _ _ (.ref (D 18 b) :: _) _
      refine z_go 4 rfl ?_
      refine z_get x18 rfl rfl rfl rfl ?_
      refine z_ite (p := ∃ j, j < K1 50 0 ∧ K1 51 j = b) (fun d => ?_) (fun d => ?_)
      · rw [show W1 100 b = 1 by rw [fg.2.2 b h1, zif_pos d]]
        refine z_br rfl rfl (fun _ => ?_) (fun c => absurd c (by decide))
        refine next _ D1 W1 K1 g fe Rg fg (fun b' q1 q2 ⟨i', e1, e2, e3⟩ => ?_)
        by_cases e : i' = i
        · rw [e] at e2 e3
          rw [uq b' q1 q2 e2 e3]
          exact d
        · exact cg b' q1 q2 ⟨i', by omega, e2, e3⟩
      · rw [show W1 100 b = 0 by rw [fg.2.2 b h1, zif_neg d]]
        refine z_br rfl rfl (fun c => absurd c (by first | decide | (dsimp only; decide))) (fun _ => ?_)
        refine z_go 90 rfl ?_
        refine z_wf fun wf0 _ => ?_
        have wf : ∀ a e, g.1 a = some e → a < g.2.1 := fun a e he => (wf0 a e he).2
        refine z_put x18 rfl rfl rfl rfl rfl rfl (by simp) ?_
        refine z_go 90 rfl ?_
        have R1 := zSt_m0 Rg h1 1
        have y22 := R1.1.1 22 0 ⟨rfl, by decide⟩
        have y23 := R1.1.1 23 0 ⟨rfl, by decide⟩
        have mk := k_mark G I Rg hp fg h1 h2 (src b h1 h2 ⟨i, by omega, h3, h4⟩) d wf
        have e18 : D1 18 = D 18 := fe.1 18 (by decide)
        have e22 : D1 22 = D 22 := fe.1 22 (by decide)
        have e23 : D1 23 = D 23 := fe.1 23 (by decide)
        rw [e18, e22] at y22
        rw [e18, e23] at y23
        rw [e18, e23] at mk
        refine z_get y22 rfl rfl rfl rfl ?_
        refine z_go 90 rfl ?_
        rw [e23]
        refine z_cVP y23 mk KJx4a65c_add_9ea2d IJx4a65c_add_9ea2d VJx4a65c_add_9ea2d rfl rfl rfl PJx4a65c_add_9ea2d rfl rfl rfl rfl ?_
        intro g3 P3
        obtain ⟨D3, W3, K3, fe3, R3, fi3, q3⟩ := P3
        refine z_go 90 rfl ?_
        rw [show nI (A + 4 * i) + (4 : Int32) = nI (A + 4 * (i + 1)) from (n_add _ 4).trans (congrArg nI (by omega)), show nI (A + 4 * (i + 1)) + (4 : Int32) = nI (A + 4 * (i + 1) + 4) from n_add _ 4]
        refine ih _ D3 W3 K3 g3 (zFE_t fe fe3) R3 fi3 (fun b' q1 q2 ⟨i', e1, e2, e3⟩ => ?_)
        by_cases e : i' = i
        · rw [e] at e2 e3
          rw [uq b' q1 q2 e2 e3]
          exact q3
        · obtain ⟨j, j1, j2⟩ := cg b' q1 q2 ⟨i', by omega, e2, e3⟩
          exact ⟨j, by have := fe3.2.1; omega, by rw [fe3.2.2 j j1]; exact j2⟩
  obtain ⟨x0, x1, rest, rc⟩ := rd D W K h (fun _ _ => rfl) R
  refine zm_of_z G KX5_findFrom rfl rfl ?_
  refine z_go 90 rfl ?_
  refine z_get rc rfl rfl rfl rfl ?_
  refine z_go 90 rfl ?_
  rw [show nI A + (4 : Int32) = nI (A + 4 * 0 + 4) from n_add A 4]
  exact loop 0 (by omega) none D W K h zFE_r R fi (fun b h1 h2 ⟨i', e1, _⟩ => by omega)
theorem k_find1 (G : zG X) (I : sInv S cc) (R : zSt X F o S D W K h p q) (hp : p ≤ 500000 ∧ q ≤ 7000000) (fi : zFi S W K) {ra A n : Nat} (rd : ∀ D' W' K' h', (∀ r, r ≠ 24 → D' r = D r) → zSt X F o S D' W' K' h' p q → ∃ x0 x1 rest, h'.1 ra = some (.inr (1, x0 :: x1 :: .int (nI A) :: .int (nI n) :: .int (nI (A + n)) :: rest))) (hA : A + n ≤ sN S 1 0) (src : ∀ b, b < sN S 23 0 → sN S 18 b = 0 → sLd S A n b → sFnd S b) : ZM X MX5_findFrom 7 290 [.ref (D 22 0), .ref ra] h (fun r h' => r = .inl none ∧ ∃ D' W' K', zFE D K D' K' ∧ zSt X F o S D' W' K' h' p q ∧ zFi S W' K' ∧ ∀ b, b < sN S 23 0 → sN S 18 b = 0 → sLd S A n b → ∃ j, j < K' 50 0 ∧ K' 51 j = b) := by
  have N2 := I.2.1.2.1
  have loop : ∀ i, i ≤ n / 4 → ∀ (o3 : Option Value) (D1 : Nat → Nat → Nat) (W1 : Nat → Nat → Int32) (K1 : Nat → Nat → Nat) (g : zHp), zFE D K D1 K1 → zSt X F o S D1 W1 K1 g p q → zFi S W1 K1 → (∀ b, b < sN S 23 0 → sN S 18 b = 0 → (∃ i', i' < i ∧ sN S 15 b ≤ sWv S (A + 4 * i') ∧ sWv S (A + 4 * i') < sN S 15 b + sN S 16 b) → ∃ j, j < K1 50 0 ∧ K1 51 j = b) → Z X MX5_findFrom (7, 290, h.2.1, h.2.2) g 9 [some (.ref (D 22 0)), some (.ref ra), some (.int (nI (A + 4 * i))), o3] [.ref ra, .int (nI (A + 4 * i + 4))] (fun r h' => r = .inl none ∧ ∃ D' W' K', zFE D K D' K' ∧ zSt X F o S D' W' K' h' p q ∧ zFi S W' K' ∧ ∀ b, b < sN S 23 0 → sN S 18 b = 0 → sLd S A n b → ∃ j, j < K' 50 0 ∧ K' 51 j = b) := by
    refine zdown (P := fun i => ∀ (o3 : Option Value) (D1 : Nat → Nat → Nat) (W1 : Nat → Nat → Int32) (K1 : Nat → Nat → Nat) (g : zHp), zFE D K D1 K1 → zSt X F o S D1 W1 K1 g p q → zFi S W1 K1 → (∀ b, b < sN S 23 0 → sN S 18 b = 0 → (∃ i', i' < i ∧ sN S 15 b ≤ sWv S (A + 4 * i') ∧ sWv S (A + 4 * i') < sN S 15 b + sN S 16 b) → ∃ j, j < K1 50 0 ∧ K1 51 j = b) → Z X MX5_findFrom (7, 290, h.2.1, h.2.2) g 9 [some (.ref (D 22 0)), some (.ref ra), some (.int (nI (A + 4 * i))), o3] [.ref ra, .int (nI (A + 4 * i + 4))] (fun r h' => r = .inl none ∧ ∃ D' W' K', zFE D K D' K' ∧ zSt X F o S D' W' K' h' p q ∧ zFi S W' K' ∧ ∀ b, b < sN S 23 0 → sN S 18 b = 0 → sLd S A n b → ∃ j, j < K' 50 0 ∧ K' 51 j = b)) (n / 4) (fun i hi ih o3 D1 W1 K1 g fe Rg fg cg => ?_)
    obtain ⟨x0, x1, rest, rc⟩ := rd D1 W1 K1 g fe.1 Rg
    refine z_get rc rfl rfl rfl rfl ?_
    refine z_br rfl rfl (fun c => ?_) (fun c => ?_) <;> (try dsimp only at c)
    · rw [n_lt (by omega) (by omega)] at c
      exact z_vret rfl rfl ⟨rfl, D1, W1, K1, fe, Rg, fg, fun b h1 h2 ⟨i', e1, e2, e3⟩ => cg b h1 h2 ⟨i', by omega, e2, e3⟩⟩
    rw [n_lt (by omega) (by omega)] at c
    have ih := ih (by omega)
    have x22 := Rg.1.1 22 0 ⟨rfl, by decide⟩
    rw [fe.1 22 (by decide)] at x22
    have ld := k_led G I Rg (A + 4 * i) (by omega)
    rw [fe.1 22 (by decide), fe.1 18 (by decide)] at ld
    have next : ∀ (o3 : Option Value) (D2 : Nat → Nat → Nat) (W2 : Nat → Nat → Int32) (K2 : Nat → Nat → Nat) (g2 : zHp), zFE D K D2 K2 → zSt X F o S D2 W2 K2 g2 p q → zFi S W2 K2 → (∀ b, b < sN S 23 0 → sN S 18 b = 0 → (∃ i', i' < i + 1 ∧ sN S 15 b ≤ sWv S (A + 4 * i') ∧ sWv S (A + 4 * i') < sN S 15 b + sN S 16 b) → ∃ j, j < K2 50 0 ∧ K2 51 j = b) → Z X MX5_findFrom (7, 290, h.2.1, h.2.2) g2 46 [some (.ref (D 22 0)), some (.ref ra), some (.int (nI (A + 4 * i))), o3] [] (fun r h' => r = .inl none ∧ ∃ D' W' K', zFE D K D' K' ∧ zSt X F o S D' W' K' h' p q ∧ zFi S W' K' ∧ ∀ b, b < sN S 23 0 → sN S 18 b = 0 → sLd S A n b → ∃ j, j < K' 50 0 ∧ K' 51 j = b) := by
      intro o3 D2 W2 K2 g2 fe2 R2 fi2 c2
      refine z_go 90 rfl ?_
      rw [show nI (A + 4 * i) + (4 : Int32) = nI (A + 4 * (i + 1)) from (n_add _ 4).trans (congrArg nI (by omega)), show nI (A + 4 * (i + 1)) + (4 : Int32) = nI (A + 4 * (i + 1) + 4) from n_add _ 4]
      exact ih o3 D2 W2 K2 g2 fe2 R2 fi2 c2
    refine z_go 90 rfl ?_
    refine z_cV x22 ld KX5_ledToFrom IX5_ledToFrom VX5_ledToFrom rfl rfl rfl PX5_ledToFrom rfl rfl rfl rfl ?_
    cases hz : zld S (A + 4 * i) with
    | none =>
      refine z_go 3 rfl ?_
      refine next _ D1 W1 K1 g fe Rg fg (fun b h1 h2 ⟨i', e1, e2, e3⟩ => ?_)
      by_cases e : i' = i
      · rw [e] at e2 e3
        have := (zld_iff I (A + 4 * i) b).mpr ⟨h1, h2, e2, e3⟩
        rw [hz] at this
        cases this
      · exact cg b h1 h2 ⟨i', by omega, e2, e3⟩
    | some b =>
      obtain ⟨h1, h2, h3, h4⟩ := (zld_iff I (A + 4 * i) b).mp hz
      have uq : ∀ b', b' < sN S 23 0 → sN S 18 b' = 0 → sN S 15 b' ≤ sWv S (A + 4 * i) → sWv S (A + 4 * i) < sN S 15 b' + sN S 16 b' → b' = b := fun b' q1 q2 q3 q4 => by
        have := (zld_iff I (A + 4 * i) b').mpr ⟨q1, q2, q3, q4⟩
        rw [hz] at this
        exact (Option.some.inj this).symm
      have x18 := Rg.1.1 18 b h1
      rw [fe.1 18 (by decide)] at x18
      have x18 : g.1 (D 18 b) = some (zBc S b (nI (sN S 18 b)) (S 22 b) (W1 100 b) (W1 101 b)) := x18
      show Z X MX5_findFrom _ _ _ _ (.ref (D 18 b) :: _) _
      refine z_go 4 rfl ?_
      refine z_get x18 rfl rfl rfl rfl ?_
      refine z_ite (p := ∃ j, j < K1 50 0 ∧ K1 51 j = b) (fun d => ?_) (fun d => ?_)
      · rw [show W1 100 b = 1 by rw [fg.2.2 b h1, zif_pos d]]
        refine z_br rfl rfl (fun _ => ?_) (fun c => absurd c (by decide))
        refine next _ D1 W1 K1 g fe Rg fg (fun b' q1 q2 ⟨i', e1, e2, e3⟩ => ?_)
        by_cases e : i' = i
        · rw [e] at e2 e3
          rw [uq b' q1 q2 e2 e3]
          exact d
        · exact cg b' q1 q2 ⟨i', by omega, e2, e3⟩
      · rw [show W1 100 b = 0 by rw [fg.2.2 b h1, zif_neg d]]
        refine z_br rfl rfl (fun c => absurd c (by first | decide | (dsimp only; decide))) (fun _ => ?_)
        refine z_go 90 rfl ?_
        refine z_wf fun wf0 _ => ?_
        have wf : ∀ a e, g.1 a = some e → a < g.2.1 := fun a e he => (wf0 a e he).2
        refine z_put x18 rfl rfl rfl rfl rfl rfl (by simp) ?_
        refine z_go 90 rfl ?_
        have R1 := zSt_m0 Rg h1 1
        have y22 := R1.1.1 22 0 ⟨rfl, by decide⟩
        have y23 := R1.1.1 23 0 ⟨rfl, by decide⟩
        have mk := k_mark G I Rg hp fg h1 h2 (src b h1 h2 ⟨i, by omega, h3, h4⟩) d wf
        have e18 : D1 18 = D 18 := fe.1 18 (by decide)
        have e22 : D1 22 = D 22 := fe.1 22 (by decide)
        have e23 : D1 23 = D 23 := fe.1 23 (by decide)
        rw [e18, e22] at y22
        rw [e18, e23] at y23
        rw [e18, e23] at mk
        refine z_get y22 rfl rfl rfl rfl ?_
        refine z_go 90 rfl ?_
        rw [e23]
        refine z_cVP y23 mk KJx4a65c_add_9ea2d IJx4a65c_add_9ea2d VJx4a65c_add_9ea2d rfl rfl rfl PJx4a65c_add_9ea2d rfl rfl rfl rfl ?_
        intro g3 P3
        obtain ⟨D3, W3, K3, fe3, R3, fi3, q3⟩ := P3
        refine z_go 90 rfl ?_
        rw [show nI (A + 4 * i) + (4 : Int32) = nI (A + 4 * (i + 1)) from (n_add _ 4).trans (congrArg nI (by omega)), show nI (A + 4 * (i + 1)) + (4 : Int32) = nI (A + 4 * (i + 1) + 4) from n_add _ 4]
        refine ih _ D3 W3 K3 g3 (zFE_t fe fe3) R3 fi3 (fun b' q1 q2 ⟨i', e1, e2, e3⟩ => ?_)
        by_cases e : i' = i
        · rw [e] at e2 e3
          rw [uq b' q1 q2 e2 e3]
          exact q3
        · obtain ⟨j, j1, j2⟩ := cg b' q1 q2 ⟨i', by omega, e2, e3⟩
          exact ⟨j, by have := fe3.2.1; omega, by rw [fe3.2.2 j j1]; exact j2⟩
  obtain ⟨x0, x1, rest, rc⟩ := rd D W K h (fun _ _ => rfl) R
  refine zm_of_z G KX5_findFrom rfl rfl ?_
  refine z_go 90 rfl ?_
  refine z_get rc rfl rfl rfl rfl ?_
  refine z_go 90 rfl ?_
  rw [show nI A + (4 : Int32) = nI (A + 4 * 0 + 4) from n_add A 4]
  exact loop 0 (by omega) none D W K h zFE_r R fi (fun b h1 h2 ⟨i', e1, _⟩ => by omega)
end ZFF
