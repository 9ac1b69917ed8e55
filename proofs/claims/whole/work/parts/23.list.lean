/-! ArrayList -/
/-- a list's row of elements: the shared empty one, or one of its own -/
def zAr (X : zCx) (h : zHp) (d cap : Nat) (g : Nat → Option Nat) : Prop := (cap = 0 ∧ zDef X d) ∨ (0 < cap ∧ h.1 d = some (zOb X cap g))
abbrev zLc (mc : Int32) (d n : Nat) : va_E := .inr (0, [.int mc, .ref d, .int (nI n)])
def zAl (X : zCx) (h : zHp) (a d : Nat) (mc : Int32) (n cap : Nat) (g : Nat → Option Nat) : Prop := h.1 a = some (zLc mc d n) ∧ zAr X h d cap g ∧ n ≤ cap ∧ cap ≤ 2000
def zgrow (cap : Nat) : Nat := if cap = 0 then 10 else cap + (if 1 < cap / 2 then cap / 2 else 1)
section ZAL
variable {X : zCx} {h : zHp}
theorem c_size (G : zG X) {a : Nat} {x y z : Value} {s : Int32} (hh : h.1 a = some (.inr (0, [x, y, .int s]))) : ZM X MJx4a65c_size_8abf5 0 100 [.ref a] h (zX h (some (.int s))) := by
  refine zm_of_z G KJx4a65c_size_8abf5 rfl rfl ?_
  refine z_go 90 rfl ?_
  refine z_get hh rfl rfl rfl rfl ?_
  refine z_go 90 rfl ?_
  exact z_iret rfl rfl ⟨rfl, rfl⟩
theorem c_isEmpty (G : zG X) {a : Nat} {x y : Value} {n : Nat} (hn : n < 2147483648) (hh : h.1 a = some (.inr (0, [x, y, .int (nI n)]))) : ZM X MJx4a65c_isEmpty_aae02 0 100 [.ref a] h (zX h (some (.int (if n = 0 then 1 else 0)))) := by
  refine zm_of_z G KJx4a65c_isEmpty_aae02 rfl rfl ?_
  refine z_go 90 rfl ?_
  refine z_get hh rfl rfl rfl rfl ?_
  refine z_go 90 rfl ?_
  refine z_br rfl rfl (fun c => ?_) (fun c => ?_) <;> (try dsimp only at c)
  · refine z_go 90 rfl ?_
    rw [show (0 : Int32) = nI 0 from rfl, n_eq hn (by omega)] at c
    exact z_zret rfl rfl rfl ⟨rfl, by rw [if_neg c]⟩
  · refine z_go 90 rfl ?_
    rw [show (0 : Int32) = nI 0 from rfl, n_eq hn (by omega)] at c
    exact z_zret rfl rfl rfl ⟨rfl, by rw [if_pos c]⟩
theorem c_chk3 (G : zG X) (i n : Int32) (h1 : 0 ≤ i.toInt) (h2 : i.toInt < n.toInt) : ZM X MJ3_checkIndex_8e157 0 100 [.int i, .int n, .null] h (zX h (some (.int i))) := by
  refine zm_of_z G KJ3_checkIndex_8e157 rfl rfl ?_
  refine z_go 90 rfl ?_
  refine z_br rfl rfl (fun c => ?_) (fun c => ?_) <;> (try dsimp only at c)
  · rw [i_lt] at c
    have : (0 : Int32).toInt = 0 := rfl
    omega
  · refine z_go 90 rfl ?_
    refine z_br rfl rfl (fun d => ?_) (fun d => ?_) <;> (try dsimp only at d)
    · refine z_go 90 rfl ?_
      exact z_iret rfl rfl ⟨rfl, rfl⟩
    · rw [i_lt] at d
      omega
theorem c_chk (G : zG X) (i n : Int32) (h1 : 0 ≤ i.toInt) (h2 : i.toInt < n.toInt) : ZM X MJ15_checkIndex_7cf53 1 127 [.int i, .int n] h (zX h (some (.int i))) := by
  refine zm_of_z G KJ15_checkIndex_7cf53 rfl rfl ?_
  refine z_go 90 rfl ?_
  refine z_cS (c_chk3 G i n h1 h2) KJ3_checkIndex_8e157 SJ3_checkIndex_8e157 rfl rfl PJ3_checkIndex_8e157 rfl rfl rfl rfl ?_
  refine z_go 90 rfl ?_
  exact z_iret rfl rfl ⟨rfl, rfl⟩
theorem c_elem (G : zG X) {a d cap : Nat} {x z : Value} {g : Nat → Option Nat} {i : Int32} (j : Nat) (hh : h.1 a = some (.inr (0, [x, .ref d, z]))) (hd : h.1 d = some (zOb X cap g)) (hi : i.toInt = (j : Int)) (hj : j < cap) : ZM X MJx4a65c_elementData_915e3 0 100 [.ref a, .int i] h (zX h (some (va_rf (g j)))) := by
  refine zm_of_z G KJx4a65c_elementData_915e3 rfl rfl ?_
  refine z_go 90 rfl ?_
  refine z_get hh rfl rfl rfl rfl ?_
  refine z_go 90 rfl ?_
  refine z_oald j hd rfl hi hj ?_
  exact z_aret rfl rfl (Or.inl ⟨_, rfl⟩) ⟨rfl, rfl⟩
theorem c_get (G : zG X) {a d cap n : Nat} {mc : Int32} {g : Nat → Option Nat} {i : Int32} {b : Nat} (j : Nat) (hA : zAl X h a d mc n cap g) (hi : i.toInt = (j : Int)) (hj : j < n) (hb : g j = some b) : ZM X MJx4a65c_get_915e3 2 154 [.ref a, .int i] h (zX h (some (.ref b))) := by
  obtain ⟨h1, h2, h3, h4⟩ := hA
  have hn : (nI n).toInt = (n : Int) := i_nI (by omega)
  refine zm_of_z G KJx4a65c_get_915e3 rfl rfl ?_
  refine z_go 90 rfl ?_
  refine z_get h1 rfl rfl rfl rfl ?_
  refine z_go 90 rfl ?_
  refine z_cS (c_chk G i (nI n) (by omega) (by omega)) KJ15_checkIndex_7cf53 SJ15_checkIndex_7cf53 rfl rfl PJ15_checkIndex_7cf53 rfl rfl rfl rfl ?_
  refine z_go 90 rfl ?_
  obtain ⟨e, -⟩ | ⟨-, h2⟩ := h2
  · omega
  refine z_cV h1 (c_elem G j h1 h2 hi (by omega)) KJx4a65c_elementData_915e3 IJx4a65c_elementData_915e3 VJx4a65c_elementData_915e3 rfl rfl rfl PJx4a65c_elementData_915e3 rfl rfl rfl rfl ?_
  rw [hb]
  refine z_go 90 rfl ?_
  exact z_aret (r := some b) rfl rfl (Or.inl ⟨_, rfl⟩) ⟨rfl, rfl⟩
end ZAL
