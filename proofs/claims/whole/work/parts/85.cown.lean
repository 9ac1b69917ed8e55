theorem zSum_c {g g' : Nat → Nat} {n : Nat} (e : ∀ i, i < n → g i = g' i) : zSum g n = zSum g' n := by
  induction n with
  | zero => rfl
  | succ n ih =>
    show zSum g n + g n = zSum g' n + g' n
    rw [ih (fun i hi => e i (by omega)), e n (by omega)]
theorem zSum_u {g g' : Nat → Nat} {n b : Nat} (hb : b < n) (e : ∀ i, i < n → i ≠ b → g' i = g i) : zSum g' n + g b = zSum g n + g' b := by
  induction n with
  | zero => omega
  | succ n ih =>
    show zSum g' n + g' n + g b = zSum g n + g n + g' b
    by_cases c : b = n
    · subst c
      rw [zSum_c (g := g') (g' := g) (fun i hi => e i (by omega) (by omega))]
      omega
    · have := ih (by omega) (fun i hi hne => e i (by omega) hne)
      rw [e n (by omega) (by omega)]
      omega
theorem zSum_sh (g : Nat → Nat) (n : Nat) : zSum g (n + 1) = g 0 + zSum (fun i => g (i + 1)) n := by
  induction n with
  | zero => show 0 + g 0 = g 0 + 0; omega
  | succ n ih =>
    show zSum g (n + 1) + g (n + 1) = g 0 + (zSum (fun i => g (i + 1)) n + g (n + 1))
    rw [ih]
    omega
theorem zFst_c {P Q : Nat → Prop} {n : Nat} (e : ∀ i, i < n → (P i ↔ Q i)) : zFst P n = zFst Q n := by
  cases h : zFst Q n with
  | none =>
    rw [zFst_none] at h ⊢
    exact fun j hj z => h j hj ((e j hj).mp z)
  | some k =>
    rw [zFst_some] at h ⊢
    exact ⟨h.1, (e k h.1).mpr h.2.1, fun j hj z => h.2.2 j hj ((e j (by omega)).mp z)⟩
/-- a block's chunk in units -/
theorem sIb_u {S : zS} {c b : Nat} (I : sInv S c) (hb : b < sN S 23 0) : ∃ f m, sN S 19 b = sN S 1 0 / 4 + 16 * f ∧ sN S 20 b = 16 * m ∧ 2 ≤ m ∧ f + m ≤ (sN S 1 0 - sN S 1 0 / 4) / 16 := by
  have q := I.2.2.2.2.1.1 b hb
  have In := I.2.1
  have c2 := sCh_b (sN S 16 b)
  have r2 : 16 ≤ sRed (sN S 16 b) := by unfold sRed; split <;> (try split) <;> (try split) <;> omega
  have i1 := In.2.2.1
  exact ⟨(sN S 19 b - sN S 1 0 / 4) / 16, sN S 20 b / 16, by omega, by omega, by omega, by omega⟩
theorem zow_some {S : zS} {c u k : Nat} (I : sInv S c) (h : zow S u = some k) : k < sN S 23 0 ∧ sN S 18 k ≠ 2 ∧ sN S 19 k ≤ sN S 1 0 / 4 + 16 * u ∧ sN S 1 0 / 4 + 16 * u < sN S 19 k + sN S 20 k := by
  obtain ⟨h1, h2, -⟩ := zFst_some.mp h
  exact ⟨h1, h2⟩
theorem zow_is {S : zS} {c u k : Nat} (I : sInv S c) (h1 : k < sN S 23 0) (h2 : sN S 18 k ≠ 2) (h3 : sN S 19 k ≤ sN S 1 0 / 4 + 16 * u) (h4 : sN S 1 0 / 4 + 16 * u < sN S 19 k + sN S 20 k) : zow S u = some k := by
  refine zFst_some.mpr ⟨h1, ⟨h2, h3, h4⟩, fun j hj z => ?_⟩
  have := I.2.2.2.2.1.2 j k (by omega) h1 (by omega) z.1 h2
  omega
theorem zow_gone {S S' : zS} {c b : Nat} (I : sInv S c) (hb : b < sN S 23 0) (hs : sN S 18 b ≠ 2) (e18 : ∀ i, sN S' 18 i = if i = b then 2 else sN S 18 i) (e1 : S' 1 = S 1) (e19 : S' 19 = S 19) (e20 : S' 20 = S 20) (e23 : S' 23 = S 23) (u : Nat) : zow S' u = if sN S 19 b ≤ sN S 1 0 / 4 + 16 * u ∧ sN S 1 0 / 4 + 16 * u < sN S 19 b + sN S 20 b then none else zow S u := by
  have a1 : sN S' 1 0 = sN S 1 0 := by unfold sN; rw [e1]
  have a19 : ∀ i, sN S' 19 i = sN S 19 i := fun i => by unfold sN; rw [e19]
  have a20 : ∀ i, sN S' 20 i = sN S 20 i := fun i => by unfold sN; rw [e20]
  have a23 : sN S' 23 0 = sN S 23 0 := by unfold sN; rw [e23]
  unfold zow
  rw [a23]
  by_cases r : sN S 19 b ≤ sN S 1 0 / 4 + 16 * u ∧ sN S 1 0 / 4 + 16 * u < sN S 19 b + sN S 20 b
  · rw [if_pos r, zFst_none]
    rintro j hj ⟨z1, z2, z3⟩
    rw [e18] at z1
    rw [a1, a19] at z2
    rw [a1, a19, a20] at z3
    by_cases c : j = b
    · rw [if_pos c] at z1
      exact z1 rfl
    · rw [if_neg c] at z1
      have := I.2.2.2.2.1.2 j b hj hb c z1 hs
      omega
  · rw [if_neg r]
    refine zFst_c (fun j hj => ?_)
    rw [a1, a19, a20, e18]
    by_cases c : j = b
    · rw [if_pos c, c]
      exact ⟨fun z => absurd rfl z.1, fun z => absurd z.2 r⟩
    · rw [if_neg c]
theorem zow_same {S S' : zS} (e18 : ∀ i, sN S' 18 i ≠ 2 ↔ sN S 18 i ≠ 2) (e1 : S' 1 = S 1) (e19 : S' 19 = S 19) (e20 : S' 20 = S 20) (e23 : S' 23 = S 23) (u : Nat) : zow S' u = zow S u := by
  have a1 : sN S' 1 0 = sN S 1 0 := by unfold sN; rw [e1]
  have a19 : ∀ i, sN S' 19 i = sN S 19 i := fun i => by unfold sN; rw [e19]
  have a20 : ∀ i, sN S' 20 i = sN S 20 i := fun i => by unfold sN; rw [e20]
  have a23 : sN S' 23 0 = sN S 23 0 := by unfold sN; rw [e23]
  unfold zow
  rw [a23]
  refine zFst_c (fun j hj => ?_)
  rw [a1, a19, a20, e18]
/-- a run of free units -/
def zRn (g : Nat → Option Nat) (U m i : Nat) : Prop := i + m ≤ U ∧ ∀ j, i ≤ j → j < i + m → g j = none
theorem sOkP_run {S : zS} {c m i : Nat} (I : sInv S c) (hm : 1 ≤ m) : sOkP S (16 * m) i ↔ zRn (zow S) ((sN S 1 0 - sN S 1 0 / 4) / 16) m i := by
  have In := I.2.1
  have i1 := In.2.2.1
  unfold sOkP zRn
  constructor
  · rintro ⟨h1, h2⟩
    refine ⟨by omega, fun j j1 j2 => ?_⟩
    cases e : zow S j with
    | none => rfl
    | some k =>
      obtain ⟨k1, k2, k3, k4⟩ := zow_some I e
      exact absurd ⟨by omega, by omega⟩ (h2 k k1 k2)
  · rintro ⟨h1, h2⟩
    refine ⟨by omega, fun k k1 k2 k3 => ?_⟩
    obtain ⟨f, m', f1, f2, f3, f4⟩ := sIb_u I k1
    by_cases c : i ≤ f
    · have := h2 f c (by omega)
      rw [zow_is I k1 k2 (by omega) (by omega)] at this
      cases this
    · have := h2 i (by omega) (by omega)
      rw [zow_is I k1 k2 (by omega) (by omega)] at this
      cases this
theorem sPlace_run {S : zS} {c m : Nat} (I : sInv S c) (hm : 1 ≤ m) : sPlace S (16 * m) = (zFst (zRn (zow S) ((sN S 1 0 - sN S 1 0 / 4) / 16) m) (sN S 1 0)).map (fun i => sN S 1 0 / 4 + 16 * i) := by
  unfold sPlace
  rw [zFst_c (fun i _ => sOkP_run I hm)]
theorem zRn_f {g d : Nat → Option Nat} {U m i : Nat} (e : ∀ j, (d j = none ↔ g j = none)) : zRn d U m i ↔ zRn g U m i := by
  unfold zRn
  exact ⟨fun z => ⟨z.1, fun j a b => (e j).mp (z.2 j a b)⟩, fun z => ⟨z.1, fun j a b => (e j).mpr (z.2 j a b)⟩⟩
section ZOW
variable {X : zCx} {h : zHp} {xh xm xo xb U f m : Nat} {g : Nat → Option Nat} {n1 n2 : Value} {H0 : Nat} {v1 v2 v3 v5 v6 v7 b1 b2 pl nu gv fd kd st w1 w2 : Value}
theorem zBk_ne {a b n ci : Nat} {fs : List Value} (h1 : h.1 a = some (zBk X n g)) (h2 : h.1 b = some (.inr (ci, fs))) : b ≠ a := by
  rintro rfl
  rw [h1] at h2
  cases h2
theorem c_ffr (G : zG X) (hh : h.1 xh = some (.inr (5, [.ref xm, v1, v2, v3, .ref xo, v5, v6, v7]))) (ho : h.1 xo = some (zBk X U g)) (hU : U ≤ 2000) (hm : 1 ≤ m) (hm2 : m ≤ 2000) {B : Nat} (hB : U ≤ B) : ZM X MX4_firstFreeRun 0 100 [.ref xh, .int (nI m)] h (zX h (some (.int (zoI (zFst (zRn g U m) B))))) := by
  refine zm_of_z G KX4_firstFreeRun rfl rfl ?_
  refine z_go 90 rfl ?_
  refine z_get hh rfl rfl rfl rfl ?_
  refine z_alen (k := 5) (by decide) ho rfl ?_
  have H := zdown (P := fun u => ∀ r, r ≤ u → r < m → (∀ j, u ≤ j + r → j < u → g j = none) → (r = u ∨ g (u - r - 1) ≠ none) → (∀ i, i + m ≤ u → ¬ zRn g U m i) → Z X MX4_firstFreeRun (0, 100, h.2.1, h.2.2) h 10 [some (.ref xh), some (.int (nI m)), some (.int (nI r)), some (.int (nI u))] [.int (nI U), .int (nI u)] (zX h (some (.int (zoI (zFst (zRn g U m) B)))))) U (fun u hu ih r h1 h2 h3 h4 h5 => ?_) 0 (Nat.zero_le _) 0 (by omega) (by omega) (fun j a b => by omega) (Or.inl rfl) (fun i hi => by omega)
  · exact H
  refine z_br rfl rfl (fun c => ?_) (fun c => ?_) <;> (try dsimp only at c)
  · rw [n_le (by omega) (by omega)] at c
    have e : zFst (zRn g U m) B = none := zFst_none.mpr (fun j hj z => by
      have := z.1
      exact h5 j (by omega) z)
    rw [e]
    refine z_go 90 rfl ?_
    exact z_iret rfl rfl ⟨rfl, rfl⟩
  rw [n_le (by omega) (by omega)] at c
  refine z_go 90 rfl ?_
  refine z_get hh rfl rfl rfl rfl ?_
  refine z_go 90 rfl ?_
  refine z_kald u ho rfl (i_nI (by omega)) (by omega) ?_
  cases hg : g u with
  | none =>
    refine z_go 90 rfl ?_
    rw [show nI r + (1 : Int32) = nI (r + 1) from n_succ r]
    refine z_br rfl rfl (fun d => ?_) (fun d => ?_) <;> (try dsimp only at d)
    · refine z_go 90 rfl ?_
      rw [show nI u + (1 : Int32) = nI (u + 1) from n_succ u]
      refine z_get hh rfl rfl rfl rfl ?_
      refine z_alen (k := 5) (by decide) ho rfl ?_
      refine ih (by omega) (r + 1) (by omega) ?_ (fun j a b => ?_) ?_ (fun i hi z => ?_)
      · by_cases e : r + 1 = m
        · exact absurd (congrArg nI e) d
        · omega
      · by_cases e : j = u
        · rw [e, hg]
        · exact h3 j (by omega) (by omega)
      · rcases h4 with z | z
        · exact Or.inl (by omega)
        · exact Or.inr (by rw [show u + 1 - (r + 1) - 1 = u - r - 1 by omega]; exact z)
      · by_cases e : i + m ≤ u
        · exact h5 i e z
        · have e9 : i + m = u + 1 := by omega
          rcases h4 with z1 | z1
          · have e7 : r + 1 ≠ m := fun e => d (congrArg nI e)
            omega
          · have e7 : r + 1 ≠ m := fun e => d (congrArg nI e)
            by_cases c9 : r = u
            · omega
            · exact z1 (z.2 (u - r - 1) (by omega) (by omega))
    · rw [n_eq (by omega) (by omega)] at d
      have e : zFst (zRn g U m) B = some (u - r) := by
        refine zFst_some.mpr ⟨by omega, ⟨by omega, fun j a b => ?_⟩, fun j hj z => ?_⟩
        · by_cases e : j = u
          · rw [e, hg]
          · exact h3 j (by omega) (by omega)
        · exact h5 j (by omega) z
      rw [e]
      refine z_go 90 rfl ?_
      refine z_iret rfl rfl ⟨rfl, ?_⟩
      refine congrArg (fun x => Sum.inl (some (Value.int x))) ?_
      show nI u - nI m + nI 1 = nI (u - r)
      apply i_ext
      have t1 := i_nI (n := u) (by omega)
      have t2 := i_nI (n := m) (by omega)
      have t3 := i_nI (n := 1) (by omega)
      have t4 := i_nI (n := u - r) (by omega)
      rw [i_add (by rw [i_sub (by omega) (by omega)]; omega) (by rw [i_sub (by omega) (by omega)]; omega), i_sub (by omega) (by omega)]
      omega
  | some k =>
    show Z X MX4_firstFreeRun _ _ _ _ (.ref k :: _) _
    refine z_go 90 rfl ?_
    refine z_br rfl rfl (fun _ => ?_) (fun c => absurd c (by
      show ¬ nI 0 = nI m
      exact (fun z => by rw [n_eq (by omega) (by omega)] at z; omega)))
    refine z_go 90 rfl ?_
    rw [show nI u + (1 : Int32) = nI (u + 1) from n_succ u]
    refine z_get hh rfl rfl rfl rfl ?_
    refine z_alen (k := 5) (by decide) ho rfl ?_
    refine ih (by omega) 0 (by omega) (by omega) (fun j a b => by omega) (Or.inr (by rw [show u + 1 - 0 - 1 = u by omega, hg]; exact fun z => by cases z)) (fun i hi z => ?_)
    by_cases e : i + m ≤ u
    · exact h5 i e z
    · have := z.2 u (by omega) (by omega)
      rw [hg] at this
      cases this
end ZOW
