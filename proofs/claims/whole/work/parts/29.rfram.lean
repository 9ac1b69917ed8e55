/-! the first of a row; sums; choices -/
noncomputable def zif {α : Type} (p : Prop) (a b : α) : α := @ite _ p (Classical.propDecidable p) a b
theorem zif_pos {α : Type} {p : Prop} {a b : α} (h : p) : zif p a b = a := by unfold zif; exact if_pos h
theorem zif_neg {α : Type} {p : Prop} {a b : α} (h : ¬ p) : zif p a b = b := by unfold zif; exact if_neg h
noncomputable def zFst (P : Nat → Prop) : Nat → Option Nat
  | 0 => none
  | n + 1 => match zFst P n with
    | some k => some k
    | none => zif (P n) (some n) none
theorem zFst_none {P : Nat → Prop} {n : Nat} : zFst P n = none ↔ ∀ j, j < n → ¬ P j := by
  induction n with
  | zero => exact ⟨fun _ j hj => by omega, fun _ => rfl⟩
  | succ n ih =>
    unfold zFst
    cases hq : zFst P n with
    | some k =>
      refine ⟨fun h => (by cases h), fun h => ?_⟩
      have := ih.mpr (fun j hj => h j (by omega))
      rw [this] at hq
      cases hq
    | none =>
      have h9 := ih.mp hq
      by_cases c : P n
      · show zif _ _ _ = none ↔ _
        rw [zif_pos c]
        exact ⟨fun h => (by cases h), fun h => absurd c (h n (by omega))⟩
      · show zif _ _ _ = none ↔ _
        rw [zif_neg c]
        refine ⟨fun _ j hj => ?_, fun _ => rfl⟩
        by_cases e : j = n
        · rw [e]; exact c
        · exact h9 j (by omega)
theorem zFst_some {P : Nat → Prop} {n k : Nat} : zFst P n = some k ↔ k < n ∧ P k ∧ ∀ j, j < k → ¬ P j := by
  induction n with
  | zero => exact ⟨fun h => (by cases h), fun h => by omega⟩
  | succ n ih =>
    unfold zFst
    cases hq : zFst P n with
    | some k' =>
      have h9 := hq
      have h8 : k' < n ∧ P k' ∧ ∀ j, j < k' → ¬ P j := by
        have : ∀ n, zFst P n = some k' → k' < n ∧ P k' ∧ ∀ j, j < k' → ¬ P j := by
          intro n
          induction n with
          | zero => intro h; cases h
          | succ n ih2 =>
            intro h
            unfold zFst at h
            cases hq2 : zFst P n with
            | some k2 =>
              rw [hq2] at h
              cases h
              obtain ⟨a, b⟩ := ih2 hq2
              exact ⟨by omega, b⟩
            | none =>
              rw [hq2] at h
              by_cases c : P n
              · have h' : zif (P n) (some n) none = some k' := h
                rw [zif_pos c] at h'
                cases h'
                exact ⟨by omega, c, zFst_none.mp hq2⟩
              · have h' : zif (P n) (some n) none = some k' := h
                rw [zif_neg c] at h'
                cases h'
        exact this n h9
      constructor
      · intro h
        cases h
        exact ⟨by omega, h8.2⟩
      · intro h
        refine congrArg some ?_
        rcases Nat.lt_trichotomy k k' with c | c | c
        · exact absurd h.2.1 (h8.2.2 k c)
        · exact c.symm
        · exact absurd h8.2.1 (h.2.2 k' c)
    | none =>
      have h9 := zFst_none.mp hq
      by_cases c : P n
      · show zif _ _ _ = some k ↔ _
        rw [zif_pos c]
        constructor
        · intro h
          cases h
          exact ⟨by omega, c, h9⟩
        · intro h
          refine congrArg some ?_
          rcases Nat.lt_trichotomy k n with d | d | d
          · exact absurd h.2.1 (h9 k d)
          · exact d.symm
          · omega
      · show zif _ _ _ = some k ↔ _
        rw [zif_neg c]
        refine ⟨fun h => (by cases h), fun h => ?_⟩
        by_cases d : k = n
        · subst d; exact absurd h.2.1 c
        · exact absurd h.2.1 (h9 k (by omega))
def zSum (g : Nat → Nat) : Nat → Nat
  | 0 => 0
  | n + 1 => zSum g n + g n
theorem zSum_le {g : Nat → Nat} {b : Nat} (h : ∀ i, g i ≤ b) (n : Nat) : zSum g n ≤ n * b := by
  induction n with
  | zero => exact Nat.zero_le _
  | succ n ih => show zSum g n + g n ≤ _; have := h n; rw [Nat.succ_mul]; omega
def zoI (r : Option Nat) : Int32 := match r with
  | some k => nI k
  | none => -1
/-! what holds of the reference's state between calls -/
def sIn (S : zS) : Prop := 1024 ≤ sN S 1 0 ∧ sN S 1 0 ≤ 8192 ∧ sN S 1 0 % 64 = 0 ∧ sN S 2 0 ≤ sN S 1 0
def sIg (S : zS) : Prop := sN S 7 0 ≤ 16 ∧ ∀ k, k < sN S 7 0 → sN S 5 k % 32 = 0 ∧ 1 ≤ sN S 6 k ∧ sN S 6 k ≤ 512 ∧ sN S 5 k + sN S 6 k + 32 ≤ sN S 1 0 / 8 ∧ 64 * k ≤ sN S 5 k
def sPad (n : Nat) : Nat := (n + 31) / 32 * 32 + 32
def sIv (S : zS) (f v : Nat) : Prop := sN S 11 v % 8 = 0 ∧ 1 ≤ sN S 12 v ∧ sN S 12 v ≤ 128 ∧ sN S 8 f + 32 ≤ sN S 11 v ∧ sN S 11 v + sPad (sN S 12 v) ≤ sN S 9 f ∧ sN S 13 v ≤ 1
def sIf (S : zS) : Prop := sN S 14 0 ≤ 10 ∧ ∀ f, f < sN S 14 0 → sN S 1 0 / 8 ≤ sN S 8 f ∧ sN S 8 f + 96 * (f + 1) ≤ sN S 1 0 / 4 ∧ sN S 8 f ≤ sN S 9 f ∧ sN S 9 f = (if f = 0 then sN S 1 0 / 4 else sN S 8 (f - 1)) ∧ sN S 8 f % 8 = 0 ∧ sN S 9 f % 8 = 0 ∧ 1 ≤ sN S 10 f ∧ sN S 10 f ≤ 4 ∧ ∀ j, j < sN S 10 f → sIv S f (4 * f + j)
def sCh (n : Nat) : Nat := sRed n + (n + 15) / 16 * 16 + 16
def sIb (S : zS) : Prop := (∀ b, b < sN S 23 0 → sN S 19 b % 16 = 0 ∧ sN S 1 0 / 4 ≤ sN S 19 b ∧ sN S 19 b + sN S 20 b ≤ sN S 1 0 ∧ sN S 20 b = sCh (sN S 16 b) ∧ sN S 15 b = sN S 19 b + sRed (sN S 16 b) ∧ sN S 16 b ≤ sN S 1 0 ∧ sN S 17 b ≤ 2 ∧ sN S 18 b ≤ 2) ∧ ∀ b c, b < sN S 23 0 → c < sN S 23 0 → b ≠ c → sN S 18 b ≠ 2 → sN S 18 c ≠ 2 → sN S 19 b + sN S 20 b ≤ sN S 19 c ∨ sN S 19 c + sN S 20 c ≤ sN S 19 b
def sIq (S : zS) : Prop := (∀ i, i < sN S 25 0 → sN S 24 i < sN S 23 0 ∧ sN S 18 (sN S 24 i) = 1) ∧ ∀ i j, i < sN S 25 0 → j < sN S 25 0 → sN S 24 i = sN S 24 j → i = j
def sIh (S : zS) : Prop := ∀ g, sN S 4 g ≤ 255 ∧ (1 ≤ sN S 4 g → sN S 4 g ≤ 7 → g + 1 < sN S 1 0 / 8)
def sIm (S : zS) : Prop := ∀ i, (S 3 i).toInt8.toInt32 = S 3 i
def sIc (S : zS) (c : Nat) : Prop := c ≤ 512 ∧ sN S 23 0 ≤ c ∧ sN S 25 0 ≤ c ∧ sN S 27 0 ≤ c
def sInv (S : zS) (c : Nat) : Prop := sI0 S ∧ sIn S ∧ sIg S ∧ sIf S ∧ sIb S ∧ sIq S ∧ sIh S ∧ sIm S ∧ sIc S c
section ZRE
variable {X : zCx} {h : zHp} {m : Nat} {S : zS} {cc : Nat}
/-- leave -/
def sLeave (S : zS) : Int32 × zS := if sN S 14 0 = 0 then (0, sThrow S 1) else (nI (sN S 14 0 - 1), sPaint (zV (sThrow S 0) 14 (fun _ => nI (sN S 14 0 - 1))) (sN S 8 (sN S 14 0 - 1)) (sN S 9 (sN S 14 0 - 1)) 245)
theorem rc_leave (G : zG X) (I : sInv S cc) : ZM X MX11_leave 1 127 [.ref m] (zr X h m S) (zX (zr X h m (sLeave S).2) (some (.int (sLeave S).1))) := by
  obtain ⟨I0, In, Ig, If, -⟩ := I
  have e14 : S 14 0 = nI (sN S 14 0) := sN_eq I0 rfl
  have f1 := If.1
  refine zm_of_z G KX11_leave rfl rfl ?_
  refine z_go 90 rfl ?_
  refine r_v14 e14 rfl rfl rfl ?_
  refine z_go 90 rfl ?_
  refine z_br rfl rfl (fun c => ?_) (fun c => ?_) <;> (try dsimp only at c)
  · rw [show (0 : Int32) = nI 0 from rfl, n_eq (by omega) (by omega)] at c
    refine z_go 90 rfl ?_
    refine rr_no G rfl rfl rfl rfl rfl ?_
    refine z_go 90 rfl ?_
    refine r_v14 e14 rfl rfl rfl ?_
    refine z_go 90 rfl ?_
    rw [show nI (sN S 14 0) - (1 : Int32) = nI (sN S 14 0 - 1) from n_sub (b := 1) (by omega) (by omega)]
    refine r_p14 rfl rfl rfl ?_
    refine z_go 90 rfl ?_
    obtain ⟨g1, g2, g3, g4, g5, g6, -⟩ := If.2 (sN S 14 0 - 1) (by omega)
    have hN := In.2.1
    refine z_get zr_o rfl rfl rfl rfl ?_
    refine z_go 90 rfl ?_
    refine r_v14 rfl rfl rfl rfl ?_
    refine z_go 90 rfl ?_
    refine r_lv8 (sN S 14 0 - 1) (sN_eq I0 rfl) (i_nI (by omega)) (by omega) rfl ?_
    refine z_go 90 rfl ?_
    refine z_get zr_o rfl rfl rfl rfl ?_
    refine z_go 90 rfl ?_
    refine r_v14 rfl rfl rfl rfl ?_
    refine z_go 90 rfl ?_
    refine r_lv9 (sN S 14 0 - 1) (sN_eq I0 rfl) (i_nI (by omega)) (by omega) rfl ?_
    refine z_go 90 rfl ?_
    have g7 : sN S 9 (sN S 14 0 - 1) ≤ 8192 := by
      rw [g4]
      split
      · omega
      · have := (If.2 (sN S 14 0 - 1 - 1) (by omega)).2.1
        omega
    refine z_cV zr_o (rc_paint G (sN S 8 (sN S 14 0 - 1)) (sN S 9 (sN S 14 0 - 1)) 245 g7 (by omega)) KX11_paint IX11_paint VX11_paint rfl rfl rfl PX11_paint rfl rfl rfl rfl ?_
    refine z_go 90 rfl ?_
    refine r_v14 rfl rfl rfl rfl ?_
    refine z_go 90 rfl ?_
    refine z_iret rfl rfl ?_
    unfold sLeave
    rw [if_neg c]
    exact ⟨rfl, rfl⟩
  · rw [show (0 : Int32) = nI 0 from rfl, n_eq (by omega) (by omega)] at c
    refine z_go 90 rfl ?_
    refine rr_yes G (by decide) rfl rfl rfl rfl rfl ?_
    refine z_go 90 rfl ?_
    refine z_iret rfl rfl ?_
    unfold sLeave
    rw [if_pos c]
    exact ⟨rfl, rfl⟩
def sNoV (S : zS) (p q : Int32) : Prop := p.toInt < 0 ∨ (sN S 14 0 : Int) ≤ p.toInt ∨ q.toInt < 0 ∨ (sN S 10 p.toInt.toNat : Int) ≤ q.toInt
theorem rc_noVar (G : zG X) (I : sInv S cc) (p q : Int32) : ZM X MX11_noVariable 0 100 [.ref m, .int p, .int q] (zr X h m S) (zX (zr X h m S) (some (.int (zif (sNoV S p q) 1 0)))) := by
  obtain ⟨I0, In, Ig, If, -⟩ := I
  have e14 : S 14 0 = nI (sN S 14 0) := sN_eq I0 rfl
  have f1 := If.1
  have q0 : (0 : Int32).toInt = 0 := rfl
  have t14 := i_nI (n := sN S 14 0) (by omega)
  refine zm_of_z G KX11_noVariable rfl rfl ?_
  refine z_go 90 rfl ?_
  refine z_br rfl rfl (fun c => ?_) (fun c => ?_) <;> (try dsimp only at c)
  · rw [i_lt] at c
    refine z_go 90 rfl ?_
    exact z_zret rfl rfl rfl ⟨rfl, by rw [zif_pos (p := sNoV S p q) (by unfold sNoV; omega)]⟩
  · rw [i_lt] at c
    refine z_go 90 rfl ?_
    refine r_v14 e14 rfl rfl rfl ?_
    refine z_go 90 rfl ?_
    refine z_br rfl rfl (fun d => ?_) (fun d => ?_) <;> (try dsimp only at d)
    · rw [i_le] at d
      refine z_go 90 rfl ?_
      exact z_zret rfl rfl rfl ⟨rfl, by rw [zif_pos (p := sNoV S p q) (by unfold sNoV; omega)]⟩
    · rw [i_le] at d
      refine z_go 90 rfl ?_
      refine z_br rfl rfl (fun e => ?_) (fun e => ?_) <;> (try dsimp only at e)
      · rw [i_lt] at e
        refine z_go 90 rfl ?_
        exact z_zret rfl rfl rfl ⟨rfl, by rw [zif_pos (p := sNoV S p q) (by unfold sNoV; omega)]⟩
      · rw [i_lt] at e
        refine z_go 90 rfl ?_
        refine z_get zr_o rfl rfl rfl rfl ?_
        refine z_go 90 rfl ?_
        refine r_lv10 p.toInt.toNat (sN_eq I0 rfl) (by omega) (by omega) rfl ?_
        refine z_go 90 rfl ?_
        have t10 := i_nI (n := sN S 10 p.toInt.toNat) (by have := sN_lt I0 (k := 10) (i := p.toInt.toNat) rfl; omega)
        refine z_br rfl rfl (fun k => ?_) (fun k => ?_) <;> (try dsimp only at k)
        · rw [i_lt] at k
          refine z_go 90 rfl ?_
          exact z_zret rfl rfl rfl ⟨rfl, by rw [zif_neg (by unfold sNoV; omega)]⟩
        · rw [i_lt] at k
          refine z_go 90 rfl ?_
          exact z_zret rfl rfl rfl ⟨rfl, by rw [zif_pos (p := sNoV S p q) (by unfold sNoV; omega)]⟩
theorem zif_b (p : Prop) : narrow .boolean (.int (zif p 1 0)) = .int (zif p 1 0) := by
  by_cases c : p
  · rw [zif_pos c]; rfl
  · rw [zif_neg c]; rfl
theorem sVar_b (I : sInv S cc) {p q : Int32} (h : ¬ sNoV S p q) : ∃ f j, p = nI f ∧ q = nI j ∧ f < sN S 14 0 ∧ j < sN S 10 f ∧ 4 * f + j < 44 ∧ sIv S f (4 * f + j) ∧ sN S 9 f ≤ 2048 := by
  obtain ⟨I0, In, Ig, If, -⟩ := I
  unfold sNoV at h
  obtain ⟨f, rfl, hf⟩ := i_nat (x := p) (by omega)
  obtain ⟨j, rfl, hj⟩ := i_nat (x := q) (by omega)
  rw [i_nI hf, i_nI hj] at h
  have hf2 : f < sN S 14 0 := by omega
  have hj2 : j < sN S 10 f := by
    have : ((f : Int).toNat) = f := by omega
    rw [this] at h
    omega
  have f1 := If.1
  obtain ⟨g1, g2, g3, g4, g5, g6, g7, g8, g9⟩ := If.2 f hf2
  refine ⟨f, j, rfl, rfl, hf2, hj2, by omega, g9 j hj2, ?_⟩
  have := In.2.1
  rw [g4]
  split
  · omega
  · have := (If.2 (f - 1) (by omega)).2.1
    omega
/-- scope -/
noncomputable def sScope (S : zS) (p q w : Int32) : Int32 × zS := zif (sNoV S p q) (0, sThrow S 1)
  (if S 13 (4 * p.toInt.toNat + q.toInt.toNat) = w then (1, if w = 0 then sPaint (zV (sThrow S 0) 13 (upd (S 13) (4 * p.toInt.toNat + q.toInt.toNat) 1)) (sN S 11 (4 * p.toInt.toNat + q.toInt.toNat)) (sN S 11 (4 * p.toInt.toNat + q.toInt.toNat) + sN S 12 (4 * p.toInt.toNat + q.toInt.toNat)) 248 else sOpen (zV (sThrow S 0) 13 (upd (S 13) (4 * p.toInt.toNat + q.toInt.toNat) 0)) (sN S 11 (4 * p.toInt.toNat + q.toInt.toNat)) (sN S 12 (4 * p.toInt.toNat + q.toInt.toNat))) else (0, sThrow S 0))
theorem rc_scope (G : zG X) (I : sInv S cc) (p q w : Int32) : ZM X MX11_scope 1 127 [.ref m, .int p, .int q, .int w] (zr X h m S) (zX (zr X h m (sScope S p q w).2) (some (.int (sScope S p q w).1))) := by
  have I0 := I.1
  refine zm_of_z G KX11_scope rfl rfl ?_
  refine z_go 90 rfl ?_
  refine z_cV zr_o (rc_noVar G I p q) KX11_noVariable IX11_noVariable VX11_noVariable rfl rfl rfl PX11_noVariable rfl rfl rfl rfl ?_
  refine z_go 90 rfl ?_
  refine z_ite (p := sNoV S p q) (fun nv => ?_) (fun nv => ?_)
  · rw [zif_pos nv]
    refine z_br rfl rfl (fun c => ?_) (fun c => ?_) <;> (try dsimp only at c)
    · exact absurd c (by decide)
    · refine z_go 90 rfl ?_
      refine rr_yes G (by decide) rfl rfl rfl rfl rfl ?_
      refine z_go 90 rfl ?_
      refine z_zret rfl rfl rfl ?_
      unfold sScope
      rw [zif_pos nv]
      exact ⟨rfl, rfl⟩
  · rw [zif_neg nv]
    refine z_br rfl rfl (fun c => ?_) (fun c => ?_) <;> (try dsimp only at c)
    · refine z_go 90 rfl ?_
      refine rr_no G rfl rfl rfl rfl rfl ?_
      obtain ⟨f, j, rfl, rfl, hf, hj, hv, ⟨v1, v2, v3, v4, v5, v6⟩, v7⟩ := sVar_b I nv
      have f1 := I.2.2.2.1.1
      have e10 := sN_lt I0 (k := 10) (i := f) rfl
      have hpd : sN S 12 (4 * f + j) + 32 ≤ sPad (sN S 12 (4 * f + j)) := by unfold sPad; omega
      have hS : sScope S (nI f) (nI j) w = (if S 13 (4 * f + j) = w then (1, if w = 0 then sPaint (zV (sThrow S 0) 13 (upd (S 13) (4 * f + j) 1)) (sN S 11 (4 * f + j)) (sN S 11 (4 * f + j) + sN S 12 (4 * f + j)) 248 else sOpen (zV (sThrow S 0) 13 (upd (S 13) (4 * f + j) 0)) (sN S 11 (4 * f + j)) (sN S 12 (4 * f + j))) else (0, sThrow S 0)) := by
        unfold sScope
        rw [zif_neg nv, i_nI (show f < 2147483648 by omega), i_nI (show j < 2147483648 by omega)]
        rfl
      rw [hS]
      refine z_go 90 rfl ?_
      rw [show (4 : Int32) * nI f + nI j = nI (4 * f + j) from by rw [show (4 : Int32) = nI 4 from rfl, n_mul, n_add]]
      refine z_get zr_o rfl rfl rfl rfl ?_
      refine z_go 90 rfl ?_
      refine r_ld13 (4 * f + j) (i_nI (by omega)) (by omega) rfl ?_
      refine z_go 90 rfl ?_
      refine z_br rfl rfl (fun d => ?_) (fun d => ?_) <;> (try dsimp only at d)
      · have d' : S 13 (4 * f + j) = w := d
        rw [if_pos d']
        refine z_go 90 rfl ?_
        refine z_get zr_o rfl rfl rfl rfl ?_
        refine z_go 90 rfl ?_
        refine z_br rfl rfl (fun e => ?_) (fun e => ?_) <;> (try dsimp only at e)
        · refine z_go 90 rfl ?_
          refine r_st13 (4 * f + j) (i_nI (by omega)) (by omega) rfl ?_
          refine z_go 90 rfl ?_
          refine z_br rfl rfl (fun k => ?_) (fun k => ?_) <;> (try dsimp only at k)
          · exact absurd k e
          · refine z_go 90 rfl ?_
            rw [if_neg e]
            refine z_get zr_o rfl rfl rfl rfl ?_
            refine z_go 90 rfl ?_
            refine r_lv11 (4 * f + j) (sN_eq I0 rfl) (i_nI (by omega)) (by omega) rfl ?_
            refine z_go 90 rfl ?_
            refine z_get zr_o rfl rfl rfl rfl ?_
            refine z_go 90 rfl ?_
            refine r_lv12 (4 * f + j) (sN_eq I0 rfl) (i_nI (by omega)) (by omega) rfl ?_
            refine z_go 90 rfl ?_
            refine z_cV zr_o (rc_opens G (sN S 11 (4 * f + j)) (sN S 12 (4 * f + j)) v1 (by omega)) KX11_opens IX11_opens VX11_opens rfl rfl rfl PX11_opens rfl rfl rfl rfl ?_
            refine z_go 90 rfl ?_
            exact z_zret rfl rfl rfl ⟨rfl, rfl⟩
        · refine z_go 90 rfl ?_
          refine r_st13 (4 * f + j) (i_nI (by omega)) (by omega) rfl ?_
          refine z_go 90 rfl ?_
          refine z_br rfl rfl (fun k => ?_) (fun k => ?_) <;> (try dsimp only at k)
          · refine z_go 90 rfl ?_
            rw [if_pos e]
            refine z_get zr_o rfl rfl rfl rfl ?_
            refine z_go 90 rfl ?_
            refine r_lv11 (4 * f + j) (sN_eq I0 rfl) (i_nI (by omega)) (by omega) rfl ?_
            refine z_go 90 rfl ?_
            refine z_get zr_o rfl rfl rfl rfl ?_
            refine z_go 90 rfl ?_
            refine r_lv11 (4 * f + j) (sN_eq I0 rfl) (i_nI (by omega)) (by omega) rfl ?_
            refine z_go 90 rfl ?_
            refine z_get zr_o rfl rfl rfl rfl ?_
            refine z_go 90 rfl ?_
            refine r_lv12 (4 * f + j) (sN_eq I0 rfl) (i_nI (by omega)) (by omega) rfl ?_
            refine z_go 90 rfl ?_
            rw [n_add]
            refine z_cV zr_o (rc_paint G (sN S 11 (4 * f + j)) (sN S 11 (4 * f + j) + sN S 12 (4 * f + j)) 248 (by omega) (by omega)) KX11_paint IX11_paint VX11_paint rfl rfl rfl PX11_paint rfl rfl rfl rfl ?_
            refine z_go 90 rfl ?_
            exact z_zret rfl rfl rfl ⟨rfl, rfl⟩
          · exact absurd e k
      · have d' : ¬ S 13 (4 * f + j) = w := d
        rw [if_neg d']
        refine z_go 90 rfl ?_
        exact z_zret rfl rfl rfl ⟨rfl, rfl⟩
    · exact absurd rfl c
/-- variable -/
noncomputable def sVar (S : zS) (p q : Int32) : Int32 × zS := zif (sNoV S p q) (0, sThrow S 1) (S 11 (4 * p.toInt.toNat + q.toInt.toNat), sThrow S 0)
theorem rc_var (G : zG X) (I : sInv S cc) (p q : Int32) : ZM X MX11_variable 1 127 [.ref m, .int p, .int q] (zr X h m S) (zX (zr X h m (sVar S p q).2) (some (.int (sVar S p q).1))) := by
  have I0 := I.1
  refine zm_of_z G KX11_variable rfl rfl ?_
  refine z_go 90 rfl ?_
  refine z_cV zr_o (rc_noVar G I p q) KX11_noVariable IX11_noVariable VX11_noVariable rfl rfl rfl PX11_noVariable rfl rfl rfl rfl ?_
  refine z_go 90 rfl ?_
  refine z_ite (p := sNoV S p q) (fun nv => ?_) (fun nv => ?_)
  · rw [zif_pos nv]
    refine z_br rfl rfl (fun c => ?_) (fun c => ?_) <;> (try dsimp only at c)
    · exact absurd c (by decide)
    · refine z_go 90 rfl ?_
      refine rr_yes G (by decide) rfl rfl rfl rfl rfl ?_
      refine z_go 90 rfl ?_
      refine z_iret rfl rfl ?_
      unfold sVar
      rw [zif_pos nv]
      exact ⟨rfl, rfl⟩
  · rw [zif_neg nv]
    refine z_br rfl rfl (fun c => ?_) (fun c => ?_) <;> (try dsimp only at c)
    · refine z_go 90 rfl ?_
      refine rr_no G rfl rfl rfl rfl rfl ?_
      obtain ⟨f, j, rfl, rfl, hf, hj, hv, -⟩ := sVar_b I nv
      have f1 := I.2.2.2.1.1
      have e10 := sN_lt I0 (k := 10) (i := f) rfl
      have hS : sVar S (nI f) (nI j) = (S 11 (4 * f + j), sThrow S 0) := by
        unfold sVar
        rw [zif_neg nv, i_nI (show f < 2147483648 by omega), i_nI (show j < 2147483648 by omega)]
        rfl
      rw [hS]
      refine z_go 90 rfl ?_
      refine z_get zr_o rfl rfl rfl rfl ?_
      refine z_go 90 rfl ?_
      rw [show (4 : Int32) * nI f + nI j = nI (4 * f + j) from by rw [show (4 : Int32) = nI 4 from rfl, n_mul, n_add]]
      refine r_ld11 (4 * f + j) (i_nI (by omega)) (by omega) rfl ?_
      refine z_go 90 rfl ?_
      exact z_iret rfl rfl ⟨rfl, rfl⟩
    · exact absurd rfl c
end ZRE
