/-! longs -/
def lI (n : Nat) : Int64 := Int64.ofNat n
theorem l_ext {x y : Int64} (h : x.toInt = y.toInt) : x = y := Int64.toInt_inj.mp h
theorem l_rng (x : Int64) : -9223372036854775808 ≤ x.toInt ∧ x.toInt ≤ 9223372036854775807 := by
  have h1 := Int64.le_toInt x
  have h2 := Int64.toInt_lt x
  constructor <;> omega
theorem l_i (p : Int32) : p.toInt64.toInt = p.toInt := Int32.toInt_toInt64 p
theorem l_add {x y : Int64} (h1 : -9223372036854775808 ≤ x.toInt + y.toInt) (h2 : x.toInt + y.toInt ≤ 9223372036854775807) : (x + y).toInt = x.toInt + y.toInt := by
  rw [Int64.toInt_add, Int.bmod_def]
  omega
theorem l_sub {x y : Int64} (h1 : -9223372036854775808 ≤ x.toInt - y.toInt) (h2 : x.toInt - y.toInt ≤ 9223372036854775807) : (x - y).toInt = x.toInt - y.toInt := by
  rw [Int64.toInt_sub, Int.bmod_def]
  omega
theorem l_32 (x : Int64) : x.toInt32.toInt = x.toInt.bmod 4294967296 := Int64.toInt_toInt32 x
theorem lc_lt (x y : Int64) : lg_cmp x y < 0 ↔ x.toInt < y.toInt := (lg_cmp_lt x y).trans Int64.lt_iff_toInt_lt
theorem lc_ge (x y : Int64) : 0 ≤ lg_cmp x y ↔ y.toInt ≤ x.toInt := by
  have h := lc_lt x y
  rw [i_lt] at h
  rw [i_le]
  have : (0 : Int32).toInt = 0 := rfl
  omega
theorem l_nI {n : Nat} (h : n < 2147483648) : (nI n).toInt64.toInt = (n : Int) := by rw [l_i, i_nI h]
theorem l_back {x : Int64} {n : Nat} (e : x.toInt = (n : Int)) (h : n < 2147483648) : x.toInt32 = nI n := by
  apply i_ext
  rw [l_32, e, i_nI h, Int.bmod_def]
  omega
theorem l_wrap (p q : Int32) : (p.toInt64 + q.toInt64).toInt32 = p + q := by
  apply i_ext
  have h1 := i_rng p
  have h2 := i_rng q
  rw [l_32, l_add (by rw [l_i, l_i]; omega) (by rw [l_i, l_i]; omega), l_i, l_i, Int32.toInt_add]
/-! a report's row -/
def sRow (S : zS) (r : Nat) (row : Nat → Int32) : zS := zV S 26 (fun i => if r ≤ i ∧ i < r + 10 then row (i - r) else S 26 i)
theorem sRow_0 (S : zS) (r : Nat) : sRow S r (fun j => S 26 (r + j)) = S := by
  unfold sRow
  rw [show (fun i => if r ≤ i ∧ i < r + 10 then S 26 (r + (i - r)) else S 26 i) = S 26 from funext fun i => by
    split
    · exact congrArg (S 26) (by omega)
    · rfl]
  exact zV_same S 26
theorem sRow_at (S : zS) (r j : Nat) (row : Nat → Int32) (hj : j < 10) : sRow S r row 26 (r + j) = row j := by
  show (if r ≤ r + j ∧ r + j < r + 10 then row (r + j - r) else S 26 (r + j)) = row j
  rw [if_pos (by omega)]
  exact congrArg row (by omega)
theorem sRow_st (S : zS) (r j : Nat) (row : Nat → Int32) (x : Int32) (hj : j < 10) : zV (sRow S r row) 26 (upd (sRow S r row 26) (r + j) x) = sRow S r (upd row j x) := by
  unfold sRow
  rw [zV_V]
  refine congrArg (zV S 26) (funext fun i => ?_)
  show (if i = r + j then x else if r ≤ i ∧ i < r + 10 then row (i - r) else S 26 i) = if r ≤ i ∧ i < r + 10 then (if i - r = j then x else row (i - r)) else S 26 i
  by_cases c1 : i = r + j
  · rw [if_pos c1, if_pos (show r ≤ i ∧ i < r + 10 by omega), if_pos (show i - r = j by omega)]
  · rw [if_neg c1]
    by_cases c2 : r ≤ i ∧ i < r + 10
    · rw [if_pos c2, if_pos c2, if_neg (show ¬ i - r = j by omega)]
    · rw [if_neg c2, if_neg c2]
def sBase (kd w many wr : Int32) : Nat → Int32 := fun j => match j with
  | 0 => kd
  | 1 => w
  | 2 => many
  | 3 => wr
  | 5 => -1
  | _ => 0
def sFar (z a n : Nat) : Nat := if z < a then a - z else if a + n ≤ z then z - (a + n) + 1 else 0
def sSide (z a n : Nat) : Nat := if sFar z a n = 0 then 0 else if z < a then 2 else 1
def sNr (z : Nat) (A N : Nat → Nat) (b : Option Nat) (k : Nat) : Option Nat := match b with
  | none => some k
  | some j => if sFar z (A k) (N k) < sFar z (A j) (N j) ∨ (sFar z (A k) (N k) = sFar z (A j) (N j) ∧ A k < A j) then some k else some j
noncomputable def sBst (z : Nat) (A N : Nat → Nat) (P : Nat → Prop) : Nat → Option Nat
  | 0 => none
  | k + 1 => zif (P k) (sNr z A N (sBst z A N P k) k) (sBst z A N P k)
def sRw (base : Nat → Int32) (sort : Int32) (z : Nat) (A N : Nat → Nat) (b : Option Nat) : Nat → Int32 := match b with
  | none => base
  | some k => upd (upd (upd (upd base 4 sort) 5 (nI k)) 6 (nI (sFar z (A k) (N k)))) 7 (nI (sSide z (A k) (N k)))
theorem sBst_lt {z : Nat} {A N : Nat → Nat} {P : Nat → Prop} {n k : Nat} (h : sBst z A N P n = some k) : k < n ∧ P k := by
  induction n with
  | zero => cases h
  | succ n ih =>
    unfold sBst at h
    by_cases c : P n
    · rw [zif_pos c] at h
      cases hb : sBst z A N P n with
      | none => rw [hb] at h; cases h; exact ⟨by omega, c⟩
      | some j =>
        rw [hb] at h
        unfold sNr at h
        dsimp only at h
        split at h
        · cases h; exact ⟨by omega, c⟩
        · cases h
          obtain ⟨a, b⟩ := ih hb
          exact ⟨by omega, b⟩
    · rw [zif_neg c] at h
      obtain ⟨a, b⟩ := ih h
      exact ⟨by omega, b⟩
section ZTE
variable {X : zCx} {h : zHp} {m : Nat} {S : zS} {cc : Nat}
theorem rc_far (G : zG X) (A : Int64) (z a n : Nat) (hA : A.toInt = (z : Int)) (hz : z ≤ 20000) (ha : a ≤ 20000) (hn : n ≤ 20000) : ZM X MX11_far 0 100 [.long A, .int (nI a), .int (nI n)] h (fun r h' => h' = h ∧ ∃ x : Int64, x.toInt = (sFar z a n : Int) ∧ r = .inl (some (.long x))) := by
  have ea := l_nI (n := a) (by omega)
  have ean := l_nI (n := a + n) (by omega)
  refine zm_of_z G KX11_far rfl rfl ?_
  refine z_go 90 rfl ?_
  refine z_br rfl rfl (fun c => ?_) (fun c => ?_) <;> (try dsimp only at c)
  · rw [lc_ge] at c
    refine z_go 90 rfl ?_
    rw [n_add]
    refine z_br rfl rfl (fun d => ?_) (fun d => ?_) <;> (try dsimp only at d)
    · rw [lc_lt] at d
      refine z_go 90 rfl ?_
      exact z_lret rfl rfl ⟨rfl, _, by unfold sFar; rw [if_neg (by omega), if_neg (by omega)]; rfl, rfl⟩
    · rw [lc_lt] at d
      refine z_go 90 rfl ?_
      rw [n_add]
      refine z_lret rfl rfl ⟨rfl, _, ?_, rfl⟩
      have e1 : (1 : Int64).toInt = 1 := rfl
      have e2 : (A - (nI (a + n)).toInt64).toInt = z - (a + n) := by rw [l_sub] <;> omega
      unfold sFar
      rw [if_neg (by omega), if_pos (by omega), l_add] <;> omega
  · rw [lc_ge] at c
    refine z_go 90 rfl ?_
    refine z_lret rfl rfl ⟨rfl, _, ?_, rfl⟩
    unfold sFar
    rw [if_pos (by omega), l_sub] <;> omega
end ZTE
