/-! updates of the class's cells by role -/
def u2 {α : Type} (A : Nat → Nat → α) (r i : Nat) (x : α) : Nat → Nat → α := fun r' => match Nat.beq r' r with
  | true => fun i' => match Nat.beq i' i with
    | true => x
    | false => A r' i'
  | false => A r'
theorem nb_ne {a b : Nat} (c : a ≠ b) : Nat.beq a b = false := by rw [Bool.eq_false_iff]; intro q; exact c (Nat.eq_of_beq_eq_true q)
theorem u2_at {α : Type} (A : Nat → Nat → α) (r i : Nat) (x : α) : u2 A r i x r i = x := by
  unfold u2
  rw [show Nat.beq r r = true from Nat.beq_refl r]
  dsimp only
  rw [show Nat.beq i i = true from Nat.beq_refl i]
theorem u2_nr {α : Type} {A : Nat → Nat → α} {r i r' : Nat} {x : α} (c : r' ≠ r) : u2 A r i x r' = A r' := by
  unfold u2
  rw [nb_ne c]
theorem u2_ni {α : Type} {A : Nat → Nat → α} {r i r' i' : Nat} {x : α} (c : ¬ (r' = r ∧ i' = i)) : u2 A r i x r' i' = A r' i' := by
  by_cases e : r' = r
  · subst e
    unfold u2
    rw [show Nat.beq r' r' = true from Nat.beq_refl r']
    dsimp only
    rw [nb_ne (fun z => c ⟨rfl, z⟩)]
  · rw [u2_nr e]
theorem u2_same {α : Type} (A : Nat → Nat → α) (r i : Nat) : u2 A r i (A r i) = A := by
  funext r' i'
  by_cases c : r' = r ∧ i' = i
  · obtain ⟨rfl, rfl⟩ := c
    exact u2_at _ _ _ _
  · exact u2_ni c
def zW (D : Nat → Nat → Nat) (V : Nat → Nat → Prop) (T : Nat → Nat → va_E) (h : zHp) : Prop := (∀ r i, V r i → h.1 (D r i) = some (T r i)) ∧ ∀ r i r' i', V r i → V r' i' → D r i = D r' i' → r = r' ∧ i = i'
def zVa (V : Nat → Nat → Prop) (r i : Nat) : Nat → Nat → Prop := fun r' i' => V r' i' ∨ r' = r ∧ i' = i
section ZWU
variable {X : zCx} {D : Nat → Nat → Nat} {V : Nat → Nat → Prop} {T : Nat → Nat → va_E} {h : zHp}
theorem zW_put (w : zW D V T h) {r i : Nat} (v : V r i) (e : va_E) : zW D V (u2 T r i e) (zset h (D r i) e) := by
  refine ⟨fun r' i' v' => ?_, w.2⟩
  by_cases c : r' = r ∧ i' = i
  · obtain ⟨rfl, rfl⟩ := c
    rw [u2_at]
    exact zset_at _ _ _
  · rw [u2_ni c, zset_ne _ _ (fun z => c (w.2 r' i' r i v' v z))]
    exact w.1 r' i' v'
theorem zW_new (w : zW D V T h) (wf : ∀ a e, h.1 a = some e → a < h.2.1) (r i : Nat) (e : va_E) (k : Nat) : zW (u2 D r i h.2.1) (zVa V r i) (u2 T r i e) (znew h e k) := by
  have old : ∀ r' i', V r' i' → D r' i' ≠ h.2.1 := fun r' i' v' z => by have := wf _ _ (w.1 r' i' v'); omega
  refine ⟨fun r' i' v' => ?_, fun r1 i1 r2 i2 v1 v2 z => ?_⟩
  · by_cases c : r' = r ∧ i' = i
    · obtain ⟨rfl, rfl⟩ := c
      rw [u2_at, u2_at]
      exact znew_at _ _ _
    · have v'' := v'.resolve_right c
      rw [u2_ni c, u2_ni c, znew_ne _ _ _ (old r' i' v'')]
      exact w.1 r' i' v''
  · by_cases c1 : r1 = r ∧ i1 = i
    · by_cases c2 : r2 = r ∧ i2 = i
      · exact ⟨by omega, by omega⟩
      · obtain ⟨rfl, rfl⟩ := c1
        rw [u2_at, u2_ni c2] at z
        exact absurd z.symm (old r2 i2 (v2.resolve_right c2))
    · by_cases c2 : r2 = r ∧ i2 = i
      · obtain ⟨rfl, rfl⟩ := c2
        rw [u2_at, u2_ni c1] at z
        exact absurd z (old r1 i1 (v1.resolve_right c1))
      · rw [u2_ni c1, u2_ni c2] at z
        exact w.2 r1 i1 r2 i2 (v1.resolve_right c1) (v2.resolve_right c2) z
theorem zW_push (w : zW D V T h) (wf : ∀ a e, h.1 a = some e → a < h.2.1) {r i n cap b : Nat} {mc : Int32} {g : Nat → Option Nat} (v : V r i) (hc : 0 < cap → V (r + 1) i) (hn : n ≤ cap) (hg : ∀ j, n ≤ j → g j = none) : ∃ d' cap', (n < cap ∧ d' = D (r + 1) i ∧ cap' = cap ∧ (zPush X h (D r i) (D (r + 1) i) mc n cap g b).2 = h.2 ∨ n = cap ∧ d' = h.2.1 ∧ cap' = zgrow cap ∧ (zPush X h (D r i) (D (r + 1) i) mc n cap g b).2 = (h.2.1 + 1, h.2.2 + zgrow cap)) ∧ zW (u2 D (r + 1) i d') (zVa V (r + 1) i) (u2 (u2 T (r + 1) i (zOb X cap' (va_up g n (some b)))) r i (zLc mc d' (n + 1))) (zPush X h (D r i) (D (r + 1) i) mc n cap g b) := by
  unfold zPush
  by_cases c : n < cap
  · rw [if_pos c]
    refine ⟨D (r + 1) i, cap, Or.inl ⟨c, rfl, rfl, rfl⟩, ?_⟩
    rw [u2_same]
    have w2 := zW_put (zW_put w (hc (by omega)) (zOb X cap (va_up g n (some b)))) v (zLc mc (D (r + 1) i) (n + 1))
    have old : ∀ r' i', zVa V (r + 1) i r' i' → V r' i' := by
      rintro r' i' (z | ⟨rfl, rfl⟩)
      · exact z
      · exact hc (by omega)
    exact ⟨fun r' i' z => w2.1 r' i' (old r' i' z), fun r1 i1 r2 i2 z1 z2 => w2.2 r1 i1 r2 i2 (old r1 i1 z1) (old r2 i2 z2)⟩
  · have e : n = cap := by omega
    subst e
    rw [if_neg c]
    refine ⟨h.2.1, zgrow n, Or.inr ⟨rfl, rfl, rfl, rfl⟩, ?_⟩
    have hg' : (fun j => if j < n then g j else none) = g := by
      funext j
      by_cases c : j < n
      · rw [if_pos c]
      · rw [if_neg c, hg j (by omega)]
    rw [hg']
    have w2 := zW_put (zW_new w wf (r + 1) i (zOb X (zgrow n) (va_up g n (some b))) (zgrow n)) (r := r) (i := i) (Or.inl v) (zLc mc h.2.1 (n + 1))
    rw [u2_ni (A := D) (r := r + 1) (r' := r) (by omega)] at w2
    exact w2
end ZWU
def zok (A : List Nat) (k : Nat) : Bool := match A with
  | [] => true
  | a :: A => !(Nat.beq k a) && zok A k
def zno (A : List Nat) (k : Nat) : Prop := match A with
  | [] => True
  | a :: A => Nat.beq k a = false ∧ zno A k
theorem zno_ok {A : List Nat} {k : Nat} (c : zok A k = true) : zno A k := by
  induction A with
  | nil => trivial
  | cons a A ih =>
    have c2 : (!(Nat.beq k a) && zok A k) = true := c
    rw [Bool.and_eq_true, Bool.not_eq_true'] at c2
    exact ⟨c2.1, ih c2.2⟩
def zhk (A B C E : List Nat) (r : Nat) : Bool := match r with
  | 0 => zok B 0 && (zok B 1 && (zok B 4 && (zok B 8 && (zok B 15 && (zok B 22 && (zok B 25))))))
  | 1 => zok A 1 && (zok B 1 && (zok B 2 && (zok B 3)))
  | 2 => zok A 1 && (zok A 3 && (zok B 2))
  | 3 => zok A 1 && (zok A 4 && (zok B 3))
  | 4 => zok B 4 && (zok B 1 && (zok B 5))
  | 5 => zok A 7 && (zok B 5 && (zok B 6 && (zok C 5 && (zok E 6))))
  | 6 => zok A 7 && (zok B 6 && (zok B 7 && (zok E 6)))
  | 7 => zok A 5 && (zok A 6 && (zok A 7 && (zok B 7)))
  | 8 => zok B 8 && (zok B 1 && (zok B 9))
  | 9 => zok A 14 && (zok B 9 && (zok B 10 && (zok C 9 && (zok E 10))))
  | 10 => zok A 14 && (zok B 10 && (zok B 11 && (zok E 10)))
  | 11 => zok A 8 && (zok A 9 && (zok A 14 && (zok B 11 && (zok B 12))))
  | 12 => zok A 10 && (zok A 14 && (zok B 12 && (zok B 13 && (zok C 12 && (zok E 13)))))
  | 13 => zok A 10 && (zok A 14 && (zok B 13 && (zok B 14 && (zok E 13))))
  | 14 => zok A 10 && (zok A 11 && (zok A 12 && (zok A 13 && (zok A 14 && (zok B 14)))))
  | 15 => zok A 2 && (zok A 18 && (zok A 20 && (zok A 23 && (zok A 24 && (zok A 25 && (zok B 15 && (zok B 1 && (zok B 16 && (zok B 19 && (zok B 21))))))))))
  | 16 => zok A 23 && (zok B 16 && (zok B 17 && (zok C 16 && (zok E 17))))
  | 17 => zok A 23 && (zok B 17 && (zok B 18 && (zok E 17)))
  | 18 => zok A 15 && (zok A 16 && (zok A 17 && (zok A 18 && (zok A 19 && (zok A 20 && (zok A 21 && (zok A 22 && (zok A 23 && (zok B 18 && (zok C 100 && (zok C 101)))))))))))
  | 19 => zok A 25 && (zok B 19 && (zok B 20 && (zok C 19 && (zok E 20))))
  | 20 => zok A 24 && (zok A 25 && (zok B 20 && (zok B 18 && (zok E 20))))
  | 21 => zok A 1 && (zok A 18 && (zok A 19 && (zok A 20 && (zok A 23 && (zok B 21 && (zok B 18))))))
  | 22 => zok B 22 && (zok B 1 && (zok B 4 && (zok B 8 && (zok B 15 && (zok B 23)))))
  | 23 => zok B 23 && (zok B 24 && (zok C 23 && (zok E 24 && (zok E 50))))
  | 24 => zok B 24 && (zok B 18 && (zok E 24 && (zok E 50 && (zok E 51))))
  | 25 => zok A 27 && (zok B 25 && (zok B 26 && (zok C 25 && (zok E 26))))
  | 26 => zok A 27 && (zok B 26 && (zok B 27 && (zok E 26)))
  | 27 => zok A 26 && (zok A 27 && (zok B 27))
  | _ => zok B 30
section ZUN
variable {X : zCx} {S S' : zS} {D D' : Nat → Nat → Nat} {W W' : Nat → Nat → Int32} {K K' : Nat → Nat → Nat} {A B C E : List Nat}
theorem zun_0 (hS : ∀ k, zno A k → S' k = S k) (hD : ∀ k, zno B k → D' k = D k) (hW : ∀ k, zno C k → W' k = W k) (hK : ∀ k, zno E k → K' k = K k) (hr : zhk A B C E 0 = true) (i : Nat) : zce X S' D' W' K' 0 i = zce X S D W K 0 i ∧ (zvd S' K' 0 i ↔ zvd S K 0 i) ∧ D' 0 = D 0 := by
  simp only [zhk, Bool.and_eq_true] at hr
  obtain ⟨zd0, zd1, zd4, zd8, zd15, zd22, zd25⟩ := hr
  have ed0 : D' 0 = D 0 := hD 0 (zno_ok zd0)
  have ed1 : D' 1 = D 1 := hD 1 (zno_ok zd1)
  have ed4 : D' 4 = D 4 := hD 4 (zno_ok zd4)
  have ed8 : D' 8 = D 8 := hD 8 (zno_ok zd8)
  have ed15 : D' 15 = D 15 := hD 15 (zno_ok zd15)
  have ed22 : D' 22 = D 22 := hD 22 (zno_ok zd22)
  have ed25 : D' 25 = D 25 := hD 25 (zno_ok zd25)
  refine ⟨?_, ?_, ed0⟩
  · simp only [zce, zln, zel, zow, sLive, sLiveB, sHB, sN, ed0, ed1, ed4, ed8, ed15, ed22, ed25]
  · simp only [zvd, sN, ed0, ed1, ed4, ed8, ed15, ed22, ed25]
theorem zun_1 (hS : ∀ k, zno A k → S' k = S k) (hD : ∀ k, zno B k → D' k = D k) (hW : ∀ k, zno C k → W' k = W k) (hK : ∀ k, zno E k → K' k = K k) (hr : zhk A B C E 1 = true) (i : Nat) : zce X S' D' W' K' 1 i = zce X S D W K 1 i ∧ (zvd S' K' 1 i ↔ zvd S K 1 i) ∧ D' 1 = D 1 := by
  simp only [zhk, Bool.and_eq_true] at hr
  obtain ⟨zs1, zd1, zd2, zd3⟩ := hr
  have es1 : S' 1 = S 1 := hS 1 (zno_ok zs1)
  have ed1 : D' 1 = D 1 := hD 1 (zno_ok zd1)
  have ed2 : D' 2 = D 2 := hD 2 (zno_ok zd2)
  have ed3 : D' 3 = D 3 := hD 3 (zno_ok zd3)
  refine ⟨?_, ?_, ed1⟩
  · simp only [zce, zln, zel, zow, sLive, sLiveB, sHB, sN, es1, ed1, ed2, ed3]
  · simp only [zvd, sN, es1, ed1, ed2, ed3]
theorem zun_2 (hS : ∀ k, zno A k → S' k = S k) (hD : ∀ k, zno B k → D' k = D k) (hW : ∀ k, zno C k → W' k = W k) (hK : ∀ k, zno E k → K' k = K k) (hr : zhk A B C E 2 = true) (i : Nat) : zce X S' D' W' K' 2 i = zce X S D W K 2 i ∧ (zvd S' K' 2 i ↔ zvd S K 2 i) ∧ D' 2 = D 2 := by
  simp only [zhk, Bool.and_eq_true] at hr
  obtain ⟨zs1, zs3, zd2⟩ := hr
  have es1 : S' 1 = S 1 := hS 1 (zno_ok zs1)
  have es3 : S' 3 = S 3 := hS 3 (zno_ok zs3)
  have ed2 : D' 2 = D 2 := hD 2 (zno_ok zd2)
  refine ⟨?_, ?_, ed2⟩
  · have ez : gM S' = gM S := by
      funext j
      simp only [gM, es3]
    simp only [zce, ez, sN, es1, es3, ed2]
  · simp only [zvd, sN, es1, es3, ed2]
theorem zun_3 (hS : ∀ k, zno A k → S' k = S k) (hD : ∀ k, zno B k → D' k = D k) (hW : ∀ k, zno C k → W' k = W k) (hK : ∀ k, zno E k → K' k = K k) (hr : zhk A B C E 3 = true) (i : Nat) : zce X S' D' W' K' 3 i = zce X S D W K 3 i ∧ (zvd S' K' 3 i ↔ zvd S K 3 i) ∧ D' 3 = D 3 := by
  simp only [zhk, Bool.and_eq_true] at hr
  obtain ⟨zs1, zs4, zd3⟩ := hr
  have es1 : S' 1 = S 1 := hS 1 (zno_ok zs1)
  have es4 : S' 4 = S 4 := hS 4 (zno_ok zs4)
  have ed3 : D' 3 = D 3 := hD 3 (zno_ok zd3)
  refine ⟨?_, ?_, ed3⟩
  · simp only [zce, zln, zel, zow, sLive, sLiveB, sHB, sN, es1, es4, ed3]
  · simp only [zvd, sN, es1, es4, ed3]
theorem zun_4 (hS : ∀ k, zno A k → S' k = S k) (hD : ∀ k, zno B k → D' k = D k) (hW : ∀ k, zno C k → W' k = W k) (hK : ∀ k, zno E k → K' k = K k) (hr : zhk A B C E 4 = true) (i : Nat) : zce X S' D' W' K' 4 i = zce X S D W K 4 i ∧ (zvd S' K' 4 i ↔ zvd S K 4 i) ∧ D' 4 = D 4 := by
  simp only [zhk, Bool.and_eq_true] at hr
  obtain ⟨zd4, zd1, zd5⟩ := hr
  have ed4 : D' 4 = D 4 := hD 4 (zno_ok zd4)
  have ed1 : D' 1 = D 1 := hD 1 (zno_ok zd1)
  have ed5 : D' 5 = D 5 := hD 5 (zno_ok zd5)
  refine ⟨?_, ?_, ed4⟩
  · simp only [zce, zln, zel, zow, sLive, sLiveB, sHB, sN, ed4, ed1, ed5]
  · simp only [zvd, sN, ed4, ed1, ed5]
theorem zun_5 (hS : ∀ k, zno A k → S' k = S k) (hD : ∀ k, zno B k → D' k = D k) (hW : ∀ k, zno C k → W' k = W k) (hK : ∀ k, zno E k → K' k = K k) (hr : zhk A B C E 5 = true) (i : Nat) : zce X S' D' W' K' 5 i = zce X S D W K 5 i ∧ (zvd S' K' 5 i ↔ zvd S K 5 i) ∧ D' 5 = D 5 := by
  simp only [zhk, Bool.and_eq_true] at hr
  obtain ⟨zs7, zd5, zd6, zw5, zk6⟩ := hr
  have es7 : S' 7 = S 7 := hS 7 (zno_ok zs7)
  have ed5 : D' 5 = D 5 := hD 5 (zno_ok zd5)
  have ed6 : D' 6 = D 6 := hD 6 (zno_ok zd6)
  have ew5 : W' 5 = W 5 := hW 5 (zno_ok zw5)
  have ek6 : K' 6 = K 6 := hK 6 (zno_ok zk6)
  refine ⟨?_, ?_, ed5⟩
  · simp only [zce, zln, zel, zow, sLive, sLiveB, sHB, sN, es7, ed5, ed6, ew5, ek6]
  · simp only [zvd, sN, es7, ed5, ed6, ew5, ek6]
theorem zun_6 (hS : ∀ k, zno A k → S' k = S k) (hD : ∀ k, zno B k → D' k = D k) (hW : ∀ k, zno C k → W' k = W k) (hK : ∀ k, zno E k → K' k = K k) (hr : zhk A B C E 6 = true) (i : Nat) : zce X S' D' W' K' 6 i = zce X S D W K 6 i ∧ (zvd S' K' 6 i ↔ zvd S K 6 i) ∧ D' 6 = D 6 := by
  simp only [zhk, Bool.and_eq_true] at hr
  obtain ⟨zs7, zd6, zd7, zk6⟩ := hr
  have es7 : S' 7 = S 7 := hS 7 (zno_ok zs7)
  have ed6 : D' 6 = D 6 := hD 6 (zno_ok zd6)
  have ed7 : D' 7 = D 7 := hD 7 (zno_ok zd7)
  have ek6 : K' 6 = K 6 := hK 6 (zno_ok zk6)
  refine ⟨?_, ?_, ed6⟩
  · have ez : zes S' D' K' 5 i = zes S D K 5 i := by
      funext j
      simp only [zes, zln, zel, sN, es7, ed6, ed7, ek6]
    simp only [zce, ez, es7, ed6, ed7, ek6]
  · simp only [zvd, sN, es7, ed6, ed7, ek6]
theorem zun_7 (hS : ∀ k, zno A k → S' k = S k) (hD : ∀ k, zno B k → D' k = D k) (hW : ∀ k, zno C k → W' k = W k) (hK : ∀ k, zno E k → K' k = K k) (hr : zhk A B C E 7 = true) (i : Nat) : zce X S' D' W' K' 7 i = zce X S D W K 7 i ∧ (zvd S' K' 7 i ↔ zvd S K 7 i) ∧ D' 7 = D 7 := by
  simp only [zhk, Bool.and_eq_true] at hr
  obtain ⟨zs5, zs6, zs7, zd7⟩ := hr
  have es5 : S' 5 = S 5 := hS 5 (zno_ok zs5)
  have es6 : S' 6 = S 6 := hS 6 (zno_ok zs6)
  have es7 : S' 7 = S 7 := hS 7 (zno_ok zs7)
  have ed7 : D' 7 = D 7 := hD 7 (zno_ok zd7)
  refine ⟨?_, ?_, ed7⟩
  · simp only [zce, zln, zel, zow, sLive, sLiveB, sHB, sN, es5, es6, es7, ed7]
  · simp only [zvd, sN, es5, es6, es7, ed7]
theorem zun_8 (hS : ∀ k, zno A k → S' k = S k) (hD : ∀ k, zno B k → D' k = D k) (hW : ∀ k, zno C k → W' k = W k) (hK : ∀ k, zno E k → K' k = K k) (hr : zhk A B C E 8 = true) (i : Nat) : zce X S' D' W' K' 8 i = zce X S D W K 8 i ∧ (zvd S' K' 8 i ↔ zvd S K 8 i) ∧ D' 8 = D 8 := by
  simp only [zhk, Bool.and_eq_true] at hr
  obtain ⟨zd8, zd1, zd9⟩ := hr
  have ed8 : D' 8 = D 8 := hD 8 (zno_ok zd8)
  have ed1 : D' 1 = D 1 := hD 1 (zno_ok zd1)
  have ed9 : D' 9 = D 9 := hD 9 (zno_ok zd9)
  refine ⟨?_, ?_, ed8⟩
  · simp only [zce, zln, zel, zow, sLive, sLiveB, sHB, sN, ed8, ed1, ed9]
  · simp only [zvd, sN, ed8, ed1, ed9]
theorem zun_9 (hS : ∀ k, zno A k → S' k = S k) (hD : ∀ k, zno B k → D' k = D k) (hW : ∀ k, zno C k → W' k = W k) (hK : ∀ k, zno E k → K' k = K k) (hr : zhk A B C E 9 = true) (i : Nat) : zce X S' D' W' K' 9 i = zce X S D W K 9 i ∧ (zvd S' K' 9 i ↔ zvd S K 9 i) ∧ D' 9 = D 9 := by
  simp only [zhk, Bool.and_eq_true] at hr
  obtain ⟨zs14, zd9, zd10, zw9, zk10⟩ := hr
  have es14 : S' 14 = S 14 := hS 14 (zno_ok zs14)
  have ed9 : D' 9 = D 9 := hD 9 (zno_ok zd9)
  have ed10 : D' 10 = D 10 := hD 10 (zno_ok zd10)
  have ew9 : W' 9 = W 9 := hW 9 (zno_ok zw9)
  have ek10 : K' 10 = K 10 := hK 10 (zno_ok zk10)
  refine ⟨?_, ?_, ed9⟩
  · simp only [zce, zln, zel, zow, sLive, sLiveB, sHB, sN, es14, ed9, ed10, ew9, ek10]
  · simp only [zvd, sN, es14, ed9, ed10, ew9, ek10]
theorem zun_10 (hS : ∀ k, zno A k → S' k = S k) (hD : ∀ k, zno B k → D' k = D k) (hW : ∀ k, zno C k → W' k = W k) (hK : ∀ k, zno E k → K' k = K k) (hr : zhk A B C E 10 = true) (i : Nat) : zce X S' D' W' K' 10 i = zce X S D W K 10 i ∧ (zvd S' K' 10 i ↔ zvd S K 10 i) ∧ D' 10 = D 10 := by
  simp only [zhk, Bool.and_eq_true] at hr
  obtain ⟨zs14, zd10, zd11, zk10⟩ := hr
  have es14 : S' 14 = S 14 := hS 14 (zno_ok zs14)
  have ed10 : D' 10 = D 10 := hD 10 (zno_ok zd10)
  have ed11 : D' 11 = D 11 := hD 11 (zno_ok zd11)
  have ek10 : K' 10 = K 10 := hK 10 (zno_ok zk10)
  refine ⟨?_, ?_, ed10⟩
  · have ez : zes S' D' K' 9 i = zes S D K 9 i := by
      funext j
      simp only [zes, zln, zel, sN, es14, ed10, ed11, ek10]
    simp only [zce, ez, es14, ed10, ed11, ek10]
  · simp only [zvd, sN, es14, ed10, ed11, ek10]
theorem zun_11 (hS : ∀ k, zno A k → S' k = S k) (hD : ∀ k, zno B k → D' k = D k) (hW : ∀ k, zno C k → W' k = W k) (hK : ∀ k, zno E k → K' k = K k) (hr : zhk A B C E 11 = true) (i : Nat) : zce X S' D' W' K' 11 i = zce X S D W K 11 i ∧ (zvd S' K' 11 i ↔ zvd S K 11 i) ∧ D' 11 = D 11 := by
  simp only [zhk, Bool.and_eq_true] at hr
  obtain ⟨zs8, zs9, zs14, zd11, zd12⟩ := hr
  have es8 : S' 8 = S 8 := hS 8 (zno_ok zs8)
  have es9 : S' 9 = S 9 := hS 9 (zno_ok zs9)
  have es14 : S' 14 = S 14 := hS 14 (zno_ok zs14)
  have ed11 : D' 11 = D 11 := hD 11 (zno_ok zd11)
  have ed12 : D' 12 = D 12 := hD 12 (zno_ok zd12)
  refine ⟨?_, ?_, ed11⟩
  · simp only [zce, zln, zel, zow, sLive, sLiveB, sHB, sN, es8, es9, es14, ed11, ed12]
  · simp only [zvd, sN, es8, es9, es14, ed11, ed12]
theorem zun_12 (hS : ∀ k, zno A k → S' k = S k) (hD : ∀ k, zno B k → D' k = D k) (hW : ∀ k, zno C k → W' k = W k) (hK : ∀ k, zno E k → K' k = K k) (hr : zhk A B C E 12 = true) (i : Nat) : zce X S' D' W' K' 12 i = zce X S D W K 12 i ∧ (zvd S' K' 12 i ↔ zvd S K 12 i) ∧ D' 12 = D 12 := by
  simp only [zhk, Bool.and_eq_true] at hr
  obtain ⟨zs10, zs14, zd12, zd13, zw12, zk13⟩ := hr
  have es10 : S' 10 = S 10 := hS 10 (zno_ok zs10)
  have es14 : S' 14 = S 14 := hS 14 (zno_ok zs14)
  have ed12 : D' 12 = D 12 := hD 12 (zno_ok zd12)
  have ed13 : D' 13 = D 13 := hD 13 (zno_ok zd13)
  have ew12 : W' 12 = W 12 := hW 12 (zno_ok zw12)
  have ek13 : K' 13 = K 13 := hK 13 (zno_ok zk13)
  refine ⟨?_, ?_, ed12⟩
  · simp only [zce, zln, zel, zow, sLive, sLiveB, sHB, sN, es10, es14, ed12, ed13, ew12, ek13]
  · simp only [zvd, sN, es10, es14, ed12, ed13, ew12, ek13]
theorem zun_13 (hS : ∀ k, zno A k → S' k = S k) (hD : ∀ k, zno B k → D' k = D k) (hW : ∀ k, zno C k → W' k = W k) (hK : ∀ k, zno E k → K' k = K k) (hr : zhk A B C E 13 = true) (i : Nat) : zce X S' D' W' K' 13 i = zce X S D W K 13 i ∧ (zvd S' K' 13 i ↔ zvd S K 13 i) ∧ D' 13 = D 13 := by
  simp only [zhk, Bool.and_eq_true] at hr
  obtain ⟨zs10, zs14, zd13, zd14, zk13⟩ := hr
  have es10 : S' 10 = S 10 := hS 10 (zno_ok zs10)
  have es14 : S' 14 = S 14 := hS 14 (zno_ok zs14)
  have ed13 : D' 13 = D 13 := hD 13 (zno_ok zd13)
  have ed14 : D' 14 = D 14 := hD 14 (zno_ok zd14)
  have ek13 : K' 13 = K 13 := hK 13 (zno_ok zk13)
  refine ⟨?_, ?_, ed13⟩
  · have ez : zes S' D' K' 12 i = zes S D K 12 i := by
      funext j
      simp only [zes, zln, zel, sN, es10, es14, ed13, ed14, ek13]
    simp only [zce, ez, es10, es14, ed13, ed14, ek13]
  · simp only [zvd, sN, es10, es14, ed13, ed14, ek13]
theorem zun_14 (hS : ∀ k, zno A k → S' k = S k) (hD : ∀ k, zno B k → D' k = D k) (hW : ∀ k, zno C k → W' k = W k) (hK : ∀ k, zno E k → K' k = K k) (hr : zhk A B C E 14 = true) (i : Nat) : zce X S' D' W' K' 14 i = zce X S D W K 14 i ∧ (zvd S' K' 14 i ↔ zvd S K 14 i) ∧ D' 14 = D 14 := by
  simp only [zhk, Bool.and_eq_true] at hr
  obtain ⟨zs10, zs11, zs12, zs13, zs14, zd14⟩ := hr
  have es10 : S' 10 = S 10 := hS 10 (zno_ok zs10)
  have es11 : S' 11 = S 11 := hS 11 (zno_ok zs11)
  have es12 : S' 12 = S 12 := hS 12 (zno_ok zs12)
  have es13 : S' 13 = S 13 := hS 13 (zno_ok zs13)
  have es14 : S' 14 = S 14 := hS 14 (zno_ok zs14)
  have ed14 : D' 14 = D 14 := hD 14 (zno_ok zd14)
  refine ⟨?_, ?_, ed14⟩
  · simp only [zce, zln, zel, zow, sLive, sLiveB, sHB, sN, es10, es11, es12, es13, es14, ed14]
  · simp only [zvd, sN, es10, es11, es12, es13, es14, ed14]
theorem zun_15 (hS : ∀ k, zno A k → S' k = S k) (hD : ∀ k, zno B k → D' k = D k) (hW : ∀ k, zno C k → W' k = W k) (hK : ∀ k, zno E k → K' k = K k) (hr : zhk A B C E 15 = true) (i : Nat) : zce X S' D' W' K' 15 i = zce X S D W K 15 i ∧ (zvd S' K' 15 i ↔ zvd S K 15 i) ∧ D' 15 = D 15 := by
  simp only [zhk, Bool.and_eq_true] at hr
  obtain ⟨zs2, zs18, zs20, zs23, zs24, zs25, zd15, zd1, zd16, zd19, zd21⟩ := hr
  have es2 : S' 2 = S 2 := hS 2 (zno_ok zs2)
  have es18 : S' 18 = S 18 := hS 18 (zno_ok zs18)
  have es20 : S' 20 = S 20 := hS 20 (zno_ok zs20)
  have es23 : S' 23 = S 23 := hS 23 (zno_ok zs23)
  have es24 : S' 24 = S 24 := hS 24 (zno_ok zs24)
  have es25 : S' 25 = S 25 := hS 25 (zno_ok zs25)
  have ed15 : D' 15 = D 15 := hD 15 (zno_ok zd15)
  have ed1 : D' 1 = D 1 := hD 1 (zno_ok zd1)
  have ed16 : D' 16 = D 16 := hD 16 (zno_ok zd16)
  have ed19 : D' 19 = D 19 := hD 19 (zno_ok zd19)
  have ed21 : D' 21 = D 21 := hD 21 (zno_ok zd21)
  refine ⟨?_, ?_, ed15⟩
  · have a2 : sN S' 2 = sN S 2 := by
      funext i
      simp only [sN, es2]
    have a18 : sN S' 18 = sN S 18 := by
      funext i
      simp only [sN, es18]
    have a20 : sN S' 20 = sN S 20 := by
      funext i
      simp only [sN, es20]
    have a23 : sN S' 23 = sN S 23 := by
      funext i
      simp only [sN, es23]
    have a24 : sN S' 24 = sN S 24 := by
      funext i
      simp only [sN, es24]
    have a25 : sN S' 25 = sN S 25 := by
      funext i
      simp only [sN, es25]
    show (Sum.inr (5, [.ref (D' 1 0), .int (nI (sN S' 2 0)), .ref (D' 16 0), .ref (D' 19 0), .ref (D' 21 0), .int (nI (sLive S' (sN S' 23 0))), .int (nI (sLiveB S' (sN S' 23 0))), .int (nI (sHB S'))]) : va_E) = Sum.inr (5, [.ref (D 1 0), .int (nI (sN S 2 0)), .ref (D 16 0), .ref (D 19 0), .ref (D 21 0), .int (nI (sLive S (sN S 23 0))), .int (nI (sLiveB S (sN S 23 0))), .int (nI (sHB S))])
    unfold sLive sLiveB sHB
    rw [a2, a18, a20, a23, a24, a25, ed1, ed16, ed19, ed21]
  · simp only [zvd, sN, es2, es18, es20, es23, es24, es25, ed15, ed1, ed16, ed19, ed21]
theorem zun_16 (hS : ∀ k, zno A k → S' k = S k) (hD : ∀ k, zno B k → D' k = D k) (hW : ∀ k, zno C k → W' k = W k) (hK : ∀ k, zno E k → K' k = K k) (hr : zhk A B C E 16 = true) (i : Nat) : zce X S' D' W' K' 16 i = zce X S D W K 16 i ∧ (zvd S' K' 16 i ↔ zvd S K 16 i) ∧ D' 16 = D 16 := by
  simp only [zhk, Bool.and_eq_true] at hr
  obtain ⟨zs23, zd16, zd17, zw16, zk17⟩ := hr
  have es23 : S' 23 = S 23 := hS 23 (zno_ok zs23)
  have ed16 : D' 16 = D 16 := hD 16 (zno_ok zd16)
  have ed17 : D' 17 = D 17 := hD 17 (zno_ok zd17)
  have ew16 : W' 16 = W 16 := hW 16 (zno_ok zw16)
  have ek17 : K' 17 = K 17 := hK 17 (zno_ok zk17)
  refine ⟨?_, ?_, ed16⟩
  · simp only [zce, zln, zel, zow, sLive, sLiveB, sHB, sN, es23, ed16, ed17, ew16, ek17]
  · simp only [zvd, sN, es23, ed16, ed17, ew16, ek17]
theorem zun_17 (hS : ∀ k, zno A k → S' k = S k) (hD : ∀ k, zno B k → D' k = D k) (hW : ∀ k, zno C k → W' k = W k) (hK : ∀ k, zno E k → K' k = K k) (hr : zhk A B C E 17 = true) (i : Nat) : zce X S' D' W' K' 17 i = zce X S D W K 17 i ∧ (zvd S' K' 17 i ↔ zvd S K 17 i) ∧ D' 17 = D 17 := by
  simp only [zhk, Bool.and_eq_true] at hr
  obtain ⟨zs23, zd17, zd18, zk17⟩ := hr
  have es23 : S' 23 = S 23 := hS 23 (zno_ok zs23)
  have ed17 : D' 17 = D 17 := hD 17 (zno_ok zd17)
  have ed18 : D' 18 = D 18 := hD 18 (zno_ok zd18)
  have ek17 : K' 17 = K 17 := hK 17 (zno_ok zk17)
  refine ⟨?_, ?_, ed17⟩
  · have ez : zes S' D' K' 16 i = zes S D K 16 i := by
      funext j
      simp only [zes, zln, zel, sN, es23, ed17, ed18, ek17]
    simp only [zce, ez, es23, ed17, ed18, ek17]
  · simp only [zvd, sN, es23, ed17, ed18, ek17]
theorem zun_18 (hS : ∀ k, zno A k → S' k = S k) (hD : ∀ k, zno B k → D' k = D k) (hW : ∀ k, zno C k → W' k = W k) (hK : ∀ k, zno E k → K' k = K k) (hr : zhk A B C E 18 = true) (i : Nat) : zce X S' D' W' K' 18 i = zce X S D W K 18 i ∧ (zvd S' K' 18 i ↔ zvd S K 18 i) ∧ D' 18 = D 18 := by
  simp only [zhk, Bool.and_eq_true] at hr
  obtain ⟨zs15, zs16, zs17, zs18, zs19, zs20, zs21, zs22, zs23, zd18, zw100, zw101⟩ := hr
  have es15 : S' 15 = S 15 := hS 15 (zno_ok zs15)
  have es16 : S' 16 = S 16 := hS 16 (zno_ok zs16)
  have es17 : S' 17 = S 17 := hS 17 (zno_ok zs17)
  have es18 : S' 18 = S 18 := hS 18 (zno_ok zs18)
  have es19 : S' 19 = S 19 := hS 19 (zno_ok zs19)
  have es20 : S' 20 = S 20 := hS 20 (zno_ok zs20)
  have es21 : S' 21 = S 21 := hS 21 (zno_ok zs21)
  have es22 : S' 22 = S 22 := hS 22 (zno_ok zs22)
  have es23 : S' 23 = S 23 := hS 23 (zno_ok zs23)
  have ed18 : D' 18 = D 18 := hD 18 (zno_ok zd18)
  have ew100 : W' 100 = W 100 := hW 100 (zno_ok zw100)
  have ew101 : W' 101 = W 101 := hW 101 (zno_ok zw101)
  refine ⟨?_, ?_, ed18⟩
  · simp only [zce, zln, zel, zow, sLive, sLiveB, sHB, sN, es15, es16, es17, es18, es19, es20, es21, es22, es23, ed18, ew100, ew101]
  · simp only [zvd, sN, es15, es16, es17, es18, es19, es20, es21, es22, es23, ed18, ew100, ew101]
theorem zun_19 (hS : ∀ k, zno A k → S' k = S k) (hD : ∀ k, zno B k → D' k = D k) (hW : ∀ k, zno C k → W' k = W k) (hK : ∀ k, zno E k → K' k = K k) (hr : zhk A B C E 19 = true) (i : Nat) : zce X S' D' W' K' 19 i = zce X S D W K 19 i ∧ (zvd S' K' 19 i ↔ zvd S K 19 i) ∧ D' 19 = D 19 := by
  simp only [zhk, Bool.and_eq_true] at hr
  obtain ⟨zs25, zd19, zd20, zw19, zk20⟩ := hr
  have es25 : S' 25 = S 25 := hS 25 (zno_ok zs25)
  have ed19 : D' 19 = D 19 := hD 19 (zno_ok zd19)
  have ed20 : D' 20 = D 20 := hD 20 (zno_ok zd20)
  have ew19 : W' 19 = W 19 := hW 19 (zno_ok zw19)
  have ek20 : K' 20 = K 20 := hK 20 (zno_ok zk20)
  refine ⟨?_, ?_, ed19⟩
  · simp only [zce, zln, zel, zow, sLive, sLiveB, sHB, sN, es25, ed19, ed20, ew19, ek20]
  · simp only [zvd, sN, es25, ed19, ed20, ew19, ek20]
theorem zun_20 (hS : ∀ k, zno A k → S' k = S k) (hD : ∀ k, zno B k → D' k = D k) (hW : ∀ k, zno C k → W' k = W k) (hK : ∀ k, zno E k → K' k = K k) (hr : zhk A B C E 20 = true) (i : Nat) : zce X S' D' W' K' 20 i = zce X S D W K 20 i ∧ (zvd S' K' 20 i ↔ zvd S K 20 i) ∧ D' 20 = D 20 := by
  simp only [zhk, Bool.and_eq_true] at hr
  obtain ⟨zs24, zs25, zd20, zd18, zk20⟩ := hr
  have es24 : S' 24 = S 24 := hS 24 (zno_ok zs24)
  have es25 : S' 25 = S 25 := hS 25 (zno_ok zs25)
  have ed20 : D' 20 = D 20 := hD 20 (zno_ok zd20)
  have ed18 : D' 18 = D 18 := hD 18 (zno_ok zd18)
  have ek20 : K' 20 = K 20 := hK 20 (zno_ok zk20)
  refine ⟨?_, ?_, ed20⟩
  · have ez : zes S' D' K' 19 i = zes S D K 19 i := by
      funext j
      simp only [zes, zln, zel, sN, es24, es25, ed20, ed18, ek20]
    simp only [zce, ez, es24, es25, ed20, ed18, ek20]
  · simp only [zvd, sN, es24, es25, ed20, ed18, ek20]
theorem zun_21 (hS : ∀ k, zno A k → S' k = S k) (hD : ∀ k, zno B k → D' k = D k) (hW : ∀ k, zno C k → W' k = W k) (hK : ∀ k, zno E k → K' k = K k) (hr : zhk A B C E 21 = true) (i : Nat) : zce X S' D' W' K' 21 i = zce X S D W K 21 i ∧ (zvd S' K' 21 i ↔ zvd S K 21 i) ∧ D' 21 = D 21 := by
  simp only [zhk, Bool.and_eq_true] at hr
  obtain ⟨zs1, zs18, zs19, zs20, zs23, zd21, zd18⟩ := hr
  have es1 : S' 1 = S 1 := hS 1 (zno_ok zs1)
  have es18 : S' 18 = S 18 := hS 18 (zno_ok zs18)
  have es19 : S' 19 = S 19 := hS 19 (zno_ok zs19)
  have es20 : S' 20 = S 20 := hS 20 (zno_ok zs20)
  have es23 : S' 23 = S 23 := hS 23 (zno_ok zs23)
  have ed21 : D' 21 = D 21 := hD 21 (zno_ok zd21)
  have ed18 : D' 18 = D 18 := hD 18 (zno_ok zd18)
  refine ⟨?_, ?_, ed21⟩
  · simp only [zce, zln, zel, zow, sLive, sLiveB, sHB, sN, es1, es18, es19, es20, es23, ed21, ed18]
  · simp only [zvd, sN, es1, es18, es19, es20, es23, ed21, ed18]
theorem zun_22 (hS : ∀ k, zno A k → S' k = S k) (hD : ∀ k, zno B k → D' k = D k) (hW : ∀ k, zno C k → W' k = W k) (hK : ∀ k, zno E k → K' k = K k) (hr : zhk A B C E 22 = true) (i : Nat) : zce X S' D' W' K' 22 i = zce X S D W K 22 i ∧ (zvd S' K' 22 i ↔ zvd S K 22 i) ∧ D' 22 = D 22 := by
  simp only [zhk, Bool.and_eq_true] at hr
  obtain ⟨zd22, zd1, zd4, zd8, zd15, zd23⟩ := hr
  have ed22 : D' 22 = D 22 := hD 22 (zno_ok zd22)
  have ed1 : D' 1 = D 1 := hD 1 (zno_ok zd1)
  have ed4 : D' 4 = D 4 := hD 4 (zno_ok zd4)
  have ed8 : D' 8 = D 8 := hD 8 (zno_ok zd8)
  have ed15 : D' 15 = D 15 := hD 15 (zno_ok zd15)
  have ed23 : D' 23 = D 23 := hD 23 (zno_ok zd23)
  refine ⟨?_, ?_, ed22⟩
  · simp only [zce, zln, zel, zow, sLive, sLiveB, sHB, sN, ed22, ed1, ed4, ed8, ed15, ed23]
  · simp only [zvd, sN, ed22, ed1, ed4, ed8, ed15, ed23]
theorem zun_23 (hS : ∀ k, zno A k → S' k = S k) (hD : ∀ k, zno B k → D' k = D k) (hW : ∀ k, zno C k → W' k = W k) (hK : ∀ k, zno E k → K' k = K k) (hr : zhk A B C E 23 = true) (i : Nat) : zce X S' D' W' K' 23 i = zce X S D W K 23 i ∧ (zvd S' K' 23 i ↔ zvd S K 23 i) ∧ D' 23 = D 23 := by
  simp only [zhk, Bool.and_eq_true] at hr
  obtain ⟨zd23, zd24, zw23, zk24, zk50⟩ := hr
  have ed23 : D' 23 = D 23 := hD 23 (zno_ok zd23)
  have ed24 : D' 24 = D 24 := hD 24 (zno_ok zd24)
  have ew23 : W' 23 = W 23 := hW 23 (zno_ok zw23)
  have ek24 : K' 24 = K 24 := hK 24 (zno_ok zk24)
  have ek50 : K' 50 = K 50 := hK 50 (zno_ok zk50)
  refine ⟨?_, ?_, ed23⟩
  · simp only [zce, zln, zel, zow, sLive, sLiveB, sHB, sN, ed23, ed24, ew23, ek24, ek50]
  · simp only [zvd, sN, ed23, ed24, ew23, ek24, ek50]
theorem zun_24 (hS : ∀ k, zno A k → S' k = S k) (hD : ∀ k, zno B k → D' k = D k) (hW : ∀ k, zno C k → W' k = W k) (hK : ∀ k, zno E k → K' k = K k) (hr : zhk A B C E 24 = true) (i : Nat) : zce X S' D' W' K' 24 i = zce X S D W K 24 i ∧ (zvd S' K' 24 i ↔ zvd S K 24 i) ∧ D' 24 = D 24 := by
  simp only [zhk, Bool.and_eq_true] at hr
  obtain ⟨zd24, zd18, zk24, zk50, zk51⟩ := hr
  have ed24 : D' 24 = D 24 := hD 24 (zno_ok zd24)
  have ed18 : D' 18 = D 18 := hD 18 (zno_ok zd18)
  have ek24 : K' 24 = K 24 := hK 24 (zno_ok zk24)
  have ek50 : K' 50 = K 50 := hK 50 (zno_ok zk50)
  have ek51 : K' 51 = K 51 := hK 51 (zno_ok zk51)
  refine ⟨?_, ?_, ed24⟩
  · have ez : zes S' D' K' 23 i = zes S D K 23 i := by
      funext j
      simp only [zes, zln, zel, sN, ed24, ed18, ek24, ek50, ek51]
    simp only [zce, ez, ed24, ed18, ek24, ek50, ek51]
  · simp only [zvd, sN, ed24, ed18, ek24, ek50, ek51]
theorem zun_25 (hS : ∀ k, zno A k → S' k = S k) (hD : ∀ k, zno B k → D' k = D k) (hW : ∀ k, zno C k → W' k = W k) (hK : ∀ k, zno E k → K' k = K k) (hr : zhk A B C E 25 = true) (i : Nat) : zce X S' D' W' K' 25 i = zce X S D W K 25 i ∧ (zvd S' K' 25 i ↔ zvd S K 25 i) ∧ D' 25 = D 25 := by
  simp only [zhk, Bool.and_eq_true] at hr
  obtain ⟨zs27, zd25, zd26, zw25, zk26⟩ := hr
  have es27 : S' 27 = S 27 := hS 27 (zno_ok zs27)
  have ed25 : D' 25 = D 25 := hD 25 (zno_ok zd25)
  have ed26 : D' 26 = D 26 := hD 26 (zno_ok zd26)
  have ew25 : W' 25 = W 25 := hW 25 (zno_ok zw25)
  have ek26 : K' 26 = K 26 := hK 26 (zno_ok zk26)
  refine ⟨?_, ?_, ed25⟩
  · simp only [zce, zln, zel, zow, sLive, sLiveB, sHB, sN, es27, ed25, ed26, ew25, ek26]
  · simp only [zvd, sN, es27, ed25, ed26, ew25, ek26]
theorem zun_26 (hS : ∀ k, zno A k → S' k = S k) (hD : ∀ k, zno B k → D' k = D k) (hW : ∀ k, zno C k → W' k = W k) (hK : ∀ k, zno E k → K' k = K k) (hr : zhk A B C E 26 = true) (i : Nat) : zce X S' D' W' K' 26 i = zce X S D W K 26 i ∧ (zvd S' K' 26 i ↔ zvd S K 26 i) ∧ D' 26 = D 26 := by
  simp only [zhk, Bool.and_eq_true] at hr
  obtain ⟨zs27, zd26, zd27, zk26⟩ := hr
  have es27 : S' 27 = S 27 := hS 27 (zno_ok zs27)
  have ed26 : D' 26 = D 26 := hD 26 (zno_ok zd26)
  have ed27 : D' 27 = D 27 := hD 27 (zno_ok zd27)
  have ek26 : K' 26 = K 26 := hK 26 (zno_ok zk26)
  refine ⟨?_, ?_, ed26⟩
  · have ez : zes S' D' K' 25 i = zes S D K 25 i := by
      funext j
      simp only [zes, zln, zel, sN, es27, ed26, ed27, ek26]
    simp only [zce, ez, es27, ed26, ed27, ek26]
  · simp only [zvd, sN, es27, ed26, ed27, ek26]
theorem zun_27 (hS : ∀ k, zno A k → S' k = S k) (hD : ∀ k, zno B k → D' k = D k) (hW : ∀ k, zno C k → W' k = W k) (hK : ∀ k, zno E k → K' k = K k) (hr : zhk A B C E 27 = true) (i : Nat) : zce X S' D' W' K' 27 i = zce X S D W K 27 i ∧ (zvd S' K' 27 i ↔ zvd S K 27 i) ∧ D' 27 = D 27 := by
  simp only [zhk, Bool.and_eq_true] at hr
  obtain ⟨zs26, zs27, zd27⟩ := hr
  have es26 : S' 26 = S 26 := hS 26 (zno_ok zs26)
  have es27 : S' 27 = S 27 := hS 27 (zno_ok zs27)
  have ed27 : D' 27 = D 27 := hD 27 (zno_ok zd27)
  refine ⟨?_, ?_, ed27⟩
  · simp only [zce, zln, zel, zow, sLive, sLiveB, sHB, sN, es26, es27, ed27]
  · simp only [zvd, sN, es26, es27, ed27]
theorem zul_5 (hS : ∀ k, zno A k → S' k = S k) (hD : ∀ k, zno B k → D' k = D k) (hW : ∀ k, zno C k → W' k = W k) (hK : ∀ k, zno E k → K' k = K k) (hr : zhk A B C E 5 = true) (i : Nat) : zln S' K' 5 i = zln S K 5 i ∧ K' (5 + 1) = K (5 + 1) ∧ D' (5 + 1) = D (5 + 1) ∧ (zls S' 5 i → zls S 5 i) := by
  simp only [zhk, Bool.and_eq_true] at hr
  obtain ⟨zs7, zd5, zd6, zw5, zk6⟩ := hr
  have es7 : S' 7 = S 7 := hS 7 (zno_ok zs7)
  have ed5 : D' 5 = D 5 := hD 5 (zno_ok zd5)
  have ed6 : D' 6 = D 6 := hD 6 (zno_ok zd6)
  have ew5 : W' 5 = W 5 := hW 5 (zno_ok zw5)
  have ek6 : K' 6 = K 6 := hK 6 (zno_ok zk6)
  refine ⟨?_, ek6, ed6, ?_⟩
  · simp only [zln, sN, es7, ed5, ed6, ew5, ek6]
  · rintro (z | z)
    · exact Or.inl z
    · exact absurd z.1 (by decide)
theorem zul_9 (hS : ∀ k, zno A k → S' k = S k) (hD : ∀ k, zno B k → D' k = D k) (hW : ∀ k, zno C k → W' k = W k) (hK : ∀ k, zno E k → K' k = K k) (hr : zhk A B C E 9 = true) (i : Nat) : zln S' K' 9 i = zln S K 9 i ∧ K' (9 + 1) = K (9 + 1) ∧ D' (9 + 1) = D (9 + 1) ∧ (zls S' 9 i → zls S 9 i) := by
  simp only [zhk, Bool.and_eq_true] at hr
  obtain ⟨zs14, zd9, zd10, zw9, zk10⟩ := hr
  have es14 : S' 14 = S 14 := hS 14 (zno_ok zs14)
  have ed9 : D' 9 = D 9 := hD 9 (zno_ok zd9)
  have ed10 : D' 10 = D 10 := hD 10 (zno_ok zd10)
  have ew9 : W' 9 = W 9 := hW 9 (zno_ok zw9)
  have ek10 : K' 10 = K 10 := hK 10 (zno_ok zk10)
  refine ⟨?_, ek10, ed10, ?_⟩
  · simp only [zln, sN, es14, ed9, ed10, ew9, ek10]
  · rintro (z | z)
    · exact Or.inl z
    · exact absurd z.1 (by decide)
theorem zul_12 (hS : ∀ k, zno A k → S' k = S k) (hD : ∀ k, zno B k → D' k = D k) (hW : ∀ k, zno C k → W' k = W k) (hK : ∀ k, zno E k → K' k = K k) (hr : zhk A B C E 12 = true) (i : Nat) : zln S' K' 12 i = zln S K 12 i ∧ K' (12 + 1) = K (12 + 1) ∧ D' (12 + 1) = D (12 + 1) ∧ (zls S' 12 i → zls S 12 i) := by
  simp only [zhk, Bool.and_eq_true] at hr
  obtain ⟨zs10, zs14, zd12, zd13, zw12, zk13⟩ := hr
  have es10 : S' 10 = S 10 := hS 10 (zno_ok zs10)
  have es14 : S' 14 = S 14 := hS 14 (zno_ok zs14)
  have ed12 : D' 12 = D 12 := hD 12 (zno_ok zd12)
  have ed13 : D' 13 = D 13 := hD 13 (zno_ok zd13)
  have ew12 : W' 12 = W 12 := hW 12 (zno_ok zw12)
  have ek13 : K' 13 = K 13 := hK 13 (zno_ok zk13)
  refine ⟨?_, ek13, ed13, ?_⟩
  · simp only [zln, sN, es10, es14, ed12, ed13, ew12, ek13]
  · simp only [zls, sN, es10, es14, ed12, ed13, ew12, ek13]
    exact fun z => z
theorem zul_16 (hS : ∀ k, zno A k → S' k = S k) (hD : ∀ k, zno B k → D' k = D k) (hW : ∀ k, zno C k → W' k = W k) (hK : ∀ k, zno E k → K' k = K k) (hr : zhk A B C E 16 = true) (i : Nat) : zln S' K' 16 i = zln S K 16 i ∧ K' (16 + 1) = K (16 + 1) ∧ D' (16 + 1) = D (16 + 1) ∧ (zls S' 16 i → zls S 16 i) := by
  simp only [zhk, Bool.and_eq_true] at hr
  obtain ⟨zs23, zd16, zd17, zw16, zk17⟩ := hr
  have es23 : S' 23 = S 23 := hS 23 (zno_ok zs23)
  have ed16 : D' 16 = D 16 := hD 16 (zno_ok zd16)
  have ed17 : D' 17 = D 17 := hD 17 (zno_ok zd17)
  have ew16 : W' 16 = W 16 := hW 16 (zno_ok zw16)
  have ek17 : K' 17 = K 17 := hK 17 (zno_ok zk17)
  refine ⟨?_, ek17, ed17, ?_⟩
  · simp only [zln, sN, es23, ed16, ed17, ew16, ek17]
  · rintro (z | z)
    · exact Or.inl z
    · exact absurd z.1 (by decide)
theorem zul_19 (hS : ∀ k, zno A k → S' k = S k) (hD : ∀ k, zno B k → D' k = D k) (hW : ∀ k, zno C k → W' k = W k) (hK : ∀ k, zno E k → K' k = K k) (hr : zhk A B C E 19 = true) (i : Nat) : zln S' K' 19 i = zln S K 19 i ∧ K' (19 + 1) = K (19 + 1) ∧ D' (19 + 1) = D (19 + 1) ∧ (zls S' 19 i → zls S 19 i) := by
  simp only [zhk, Bool.and_eq_true] at hr
  obtain ⟨zs25, zd19, zd20, zw19, zk20⟩ := hr
  have es25 : S' 25 = S 25 := hS 25 (zno_ok zs25)
  have ed19 : D' 19 = D 19 := hD 19 (zno_ok zd19)
  have ed20 : D' 20 = D 20 := hD 20 (zno_ok zd20)
  have ew19 : W' 19 = W 19 := hW 19 (zno_ok zw19)
  have ek20 : K' 20 = K 20 := hK 20 (zno_ok zk20)
  refine ⟨?_, ek20, ed20, ?_⟩
  · simp only [zln, sN, es25, ed19, ed20, ew19, ek20]
  · rintro (z | z)
    · exact Or.inl z
    · exact absurd z.1 (by decide)
theorem zul_23 (hS : ∀ k, zno A k → S' k = S k) (hD : ∀ k, zno B k → D' k = D k) (hW : ∀ k, zno C k → W' k = W k) (hK : ∀ k, zno E k → K' k = K k) (hr : zhk A B C E 23 = true) (i : Nat) : zln S' K' 23 i = zln S K 23 i ∧ K' (23 + 1) = K (23 + 1) ∧ D' (23 + 1) = D (23 + 1) ∧ (zls S' 23 i → zls S 23 i) := by
  simp only [zhk, Bool.and_eq_true] at hr
  obtain ⟨zd23, zd24, zw23, zk24, zk50⟩ := hr
  have ed23 : D' 23 = D 23 := hD 23 (zno_ok zd23)
  have ed24 : D' 24 = D 24 := hD 24 (zno_ok zd24)
  have ew23 : W' 23 = W 23 := hW 23 (zno_ok zw23)
  have ek24 : K' 24 = K 24 := hK 24 (zno_ok zk24)
  have ek50 : K' 50 = K 50 := hK 50 (zno_ok zk50)
  refine ⟨?_, ek24, ed24, ?_⟩
  · simp only [zln, sN, ed23, ed24, ew23, ek24, ek50]
  · rintro (z | z)
    · exact Or.inl z
    · exact absurd z.1 (by decide)
theorem zul_25 (hS : ∀ k, zno A k → S' k = S k) (hD : ∀ k, zno B k → D' k = D k) (hW : ∀ k, zno C k → W' k = W k) (hK : ∀ k, zno E k → K' k = K k) (hr : zhk A B C E 25 = true) (i : Nat) : zln S' K' 25 i = zln S K 25 i ∧ K' (25 + 1) = K (25 + 1) ∧ D' (25 + 1) = D (25 + 1) ∧ (zls S' 25 i → zls S 25 i) := by
  simp only [zhk, Bool.and_eq_true] at hr
  obtain ⟨zs27, zd25, zd26, zw25, zk26⟩ := hr
  have es27 : S' 27 = S 27 := hS 27 (zno_ok zs27)
  have ed25 : D' 25 = D 25 := hD 25 (zno_ok zd25)
  have ed26 : D' 26 = D 26 := hD 26 (zno_ok zd26)
  have ew25 : W' 25 = W 25 := hW 25 (zno_ok zw25)
  have ek26 : K' 26 = K 26 := hK 26 (zno_ok zk26)
  refine ⟨?_, ek26, ed26, ?_⟩
  · simp only [zln, sN, es27, ed25, ed26, ew25, ek26]
  · rintro (z | z)
    · exact Or.inl z
    · exact absurd z.1 (by decide)
theorem zun (hS : ∀ k, zno A k → S' k = S k) (hD : ∀ k, zno B k → D' k = D k) (hW : ∀ k, zno C k → W' k = W k) (hK : ∀ k, zno E k → K' k = K k) {r : Nat} (h28 : r < 28) (hr : zhk A B C E r = true) (i : Nat) : zce X S' D' W' K' r i = zce X S D W K r i ∧ (zvd S' K' r i ↔ zvd S K r i) ∧ D' r = D r := by
  match r, h28, hr with
  | 0, _, hr => exact zun_0 hS hD hW hK hr i
  | 1, _, hr => exact zun_1 hS hD hW hK hr i
  | 2, _, hr => exact zun_2 hS hD hW hK hr i
  | 3, _, hr => exact zun_3 hS hD hW hK hr i
  | 4, _, hr => exact zun_4 hS hD hW hK hr i
  | 5, _, hr => exact zun_5 hS hD hW hK hr i
  | 6, _, hr => exact zun_6 hS hD hW hK hr i
  | 7, _, hr => exact zun_7 hS hD hW hK hr i
  | 8, _, hr => exact zun_8 hS hD hW hK hr i
  | 9, _, hr => exact zun_9 hS hD hW hK hr i
  | 10, _, hr => exact zun_10 hS hD hW hK hr i
  | 11, _, hr => exact zun_11 hS hD hW hK hr i
  | 12, _, hr => exact zun_12 hS hD hW hK hr i
  | 13, _, hr => exact zun_13 hS hD hW hK hr i
  | 14, _, hr => exact zun_14 hS hD hW hK hr i
  | 15, _, hr => exact zun_15 hS hD hW hK hr i
  | 16, _, hr => exact zun_16 hS hD hW hK hr i
  | 17, _, hr => exact zun_17 hS hD hW hK hr i
  | 18, _, hr => exact zun_18 hS hD hW hK hr i
  | 19, _, hr => exact zun_19 hS hD hW hK hr i
  | 20, _, hr => exact zun_20 hS hD hW hK hr i
  | 21, _, hr => exact zun_21 hS hD hW hK hr i
  | 22, _, hr => exact zun_22 hS hD hW hK hr i
  | 23, _, hr => exact zun_23 hS hD hW hK hr i
  | 24, _, hr => exact zun_24 hS hD hW hK hr i
  | 25, _, hr => exact zun_25 hS hD hW hK hr i
  | 26, _, hr => exact zun_26 hS hD hW hK hr i
  | 27, _, hr => exact zun_27 hS hD hW hK hr i
  | n + 28, h28, hr => exact absurd h28 (by omega)
theorem zul (hS : ∀ k, zno A k → S' k = S k) (hD : ∀ k, zno B k → D' k = D k) (hW : ∀ k, zno C k → W' k = W k) (hK : ∀ k, zno E k → K' k = K k) {r i : Nat} (hl : zls S' r i) (hr : zhk A B C E r = true) : zln S' K' r i = zln S K r i ∧ K' (r + 1) = K (r + 1) ∧ D' (r + 1) = D (r + 1) ∧ zls S r i := by
  obtain ⟨-, h1⟩ | ⟨h1, -⟩ := id hl
  · rcases h1 with rfl | rfl | rfl | rfl | rfl | rfl
    · have q := zul_5 hS hD hW hK hr i
      exact ⟨q.1, q.2.1, q.2.2.1, q.2.2.2 hl⟩
    · have q := zul_9 hS hD hW hK hr i
      exact ⟨q.1, q.2.1, q.2.2.1, q.2.2.2 hl⟩
    · have q := zul_16 hS hD hW hK hr i
      exact ⟨q.1, q.2.1, q.2.2.1, q.2.2.2 hl⟩
    · have q := zul_19 hS hD hW hK hr i
      exact ⟨q.1, q.2.1, q.2.2.1, q.2.2.2 hl⟩
    · have q := zul_23 hS hD hW hK hr i
      exact ⟨q.1, q.2.1, q.2.2.1, q.2.2.2 hl⟩
    · have q := zul_25 hS hD hW hK hr i
      exact ⟨q.1, q.2.1, q.2.2.1, q.2.2.2 hl⟩
  · subst h1
    have q := zul_12 hS hD hW hK hr i
    exact ⟨q.1, q.2.1, q.2.2.1, q.2.2.2 hl⟩
end ZUN
