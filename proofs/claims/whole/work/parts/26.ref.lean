/-! the reference: S k i is element i of its field k (a number: i = 0) -/
abbrev zS : Type := Nat → Nat → Int32
def zV (S : zS) (k : Nat) (g : Nat → Int32) : zS := fun k2 => match Nat.beq k2 k with
  | true => g
  | false => S k2
abbrev zro (S : zS) (m : Nat) : va_E := .inr (12, [.int (S 0 0), .int (S 1 0), .int (S 2 0), .ref (m + 1), .ref (m + 2), .ref (m + 3), .ref (m + 4), .int (S 7 0), .ref (m + 5), .ref (m + 6), .ref (m + 7), .ref (m + 8), .ref (m + 9), .ref (m + 10), .int (S 14 0), .ref (m + 11), .ref (m + 12), .ref (m + 13), .ref (m + 14), .ref (m + 15), .ref (m + 16), .ref (m + 17), .ref (m + 18), .int (S 23 0), .ref (m + 19), .int (S 25 0), .ref (m + 20), .int (S 27 0), .ref (m + 21), .ref (m + 22)])
def zrc (X : zCx) (S : zS) (m : Nat) : Nat → Option va_E := fun j => match j with
  | 0 => some (zro S m)
  | 1 => some (zY X 8192 (S 3))
  | 2 => some (zI X 1024 (S 4))
  | 3 => some (zI X 40 (S 5))
  | 4 => some (zI X 40 (S 6))
  | 5 => some (zI X 24 (S 8))
  | 6 => some (zI X 24 (S 9))
  | 7 => some (zI X 24 (S 10))
  | 8 => some (zI X 96 (S 11))
  | 9 => some (zI X 96 (S 12))
  | 10 => some (zZ X 96 (S 13))
  | 11 => some (zI X 520 (S 15))
  | 12 => some (zI X 520 (S 16))
  | 13 => some (zI X 520 (S 17))
  | 14 => some (zI X 520 (S 18))
  | 15 => some (zI X 520 (S 19))
  | 16 => some (zI X 520 (S 20))
  | 17 => some (zI X 520 (S 21))
  | 18 => some (zI X 520 (S 22))
  | 19 => some (zI X 520 (S 24))
  | 20 => some (zI X 5300 (S 26))
  | 21 => some (zZ X 520 (S 28))
  | 22 => some (zY X 8192 (S 29))
  | _ => none
def zr (X : zCx) (h : zHp) (m : Nat) (S : zS) : zHp := (fun a => if m ≤ a ∧ a < m + 23 then zrc X S m (a - m) else h.1 a, h.2)
theorem zV_at (S : zS) (k : Nat) (g : Nat → Int32) : zV S k g k = g := by
  unfold zV
  rw [show Nat.beq k k = true from Nat.beq_refl k]
theorem zV_ne (S : zS) {k j : Nat} (g : Nat → Int32) (c : j ≠ k) : zV S k g j = S j := by
  unfold zV
  rw [show Nat.beq j k = false from by rw [Bool.eq_false_iff]; intro q; exact c (Nat.eq_of_beq_eq_true q)]
section ZRF
variable {X : zCx} {M : zMI} {f : zFr} {h : zHp} {pc : Nat} {L : zLo} {st : List Value} {Q : zRs → zHp → Prop} {m : Nat} {S : zS}
theorem zr_a {j : Nat} {e : va_E} (hj : Nat.ble (j + 1) 23 = true) (he : zrc X S m j = some e) : (zr X h m S).1 (m + j) = some e := by
  have := Nat.le_of_ble_eq_true hj
  show (if m ≤ m + j ∧ m + j < m + 23 then zrc X S m (m + j - m) else h.1 (m + j)) = some e
  rw [if_pos ⟨by omega, by omega⟩, show m + j - m = j by omega, he]
theorem zr_o : (zr X h m S).1 m = some (zro S m) := zr_a (j := 0) rfl rfl
theorem zr_n {a : Nat} (c : a < m ∨ m + 23 ≤ a) : (zr X h m S).1 a = h.1 a := if_neg (by omega)
theorem zr_put {S' : zS} {j : Nat} {e : va_E} (hj : Nat.ble (j + 1) 23 = true) (he : zrc X S' m j = some e) (hne : ∀ i, i < 23 → i ≠ j → zrc X S' m i = zrc X S m i) : zset (zr X h m S) (m + j) e = zr X h m S' := by
  have := Nat.le_of_ble_eq_true hj
  refine Prod.ext (funext fun a => ?_) rfl
  show (if a = m + j then some e else if m ≤ a ∧ a < m + 23 then zrc X S m (a - m) else h.1 a) = (if m ≤ a ∧ a < m + 23 then zrc X S' m (a - m) else h.1 a)
  by_cases c : a = m + j
  · subst c
    rw [if_pos rfl, if_pos ⟨by omega, by omega⟩, show m + j - m = j by omega, he]
  · rw [if_neg c]
    by_cases d : m ≤ a ∧ a < m + 23
    · rw [if_pos d, if_pos d, hne (a - m) (by omega) (by omega)]
    · rw [if_neg d, if_neg d]
theorem zr_zr {S' : zS} : zr X (zr X h m S) m S' = zr X h m S' := by
  refine Prod.ext (funext fun a => ?_) rfl
  show (if m ≤ a ∧ a < m + 23 then zrc X S' m (a - m) else (if m ≤ a ∧ a < m + 23 then zrc X S m (a - m) else h.1 a)) = _
  by_cases d : m ≤ a ∧ a < m + 23
  · rw [if_pos d]; exact (if_pos d).symm
  · rw [if_neg d, if_neg d]; exact (if_neg d).symm
theorem zr_s3 {g : Nat → Int32} : zset (zr X h m S) (m + 1) (zY X 8192 g) = zr X h m (zV S 3 g) := zr_put (j := 1) rfl rfl (by
    intro i hi hne
    match i, hi, hne with
    | 0, _, _ => rfl
    | 1, _, hne => exact absurd rfl hne
    | 2, _, _ => rfl
    | 3, _, _ => rfl
    | 4, _, _ => rfl
    | 5, _, _ => rfl
    | 6, _, _ => rfl
    | 7, _, _ => rfl
    | 8, _, _ => rfl
    | 9, _, _ => rfl
    | 10, _, _ => rfl
    | 11, _, _ => rfl
    | 12, _, _ => rfl
    | 13, _, _ => rfl
    | 14, _, _ => rfl
    | 15, _, _ => rfl
    | 16, _, _ => rfl
    | 17, _, _ => rfl
    | 18, _, _ => rfl
    | 19, _, _ => rfl
    | 20, _, _ => rfl
    | 21, _, _ => rfl
    | 22, _, _ => rfl
    | n + 23, hi, _ => omega)
theorem r_st3 {i x : Int32} {p0 nx t : Nat} {lv : Int32} (j : Nat) (hi : i.toInt = (j : Int)) (hj : j < 8192) (hf : zlk (zFt M) pc = some (p0, .bastore, nx, lv, t)) (kk : Z X M f (zr X h m (zV S 3 (upd (S 3) j x.toInt8.toInt32))) nx L st Q) : Z X M f (zr X h m S) pc L (.int x :: .int i :: .ref (m + 1) :: st) Q := z_bast j (zr_a rfl rfl) hf hi hj (by rw [zr_s3]; exact kk)
theorem r_ld3 {i : Int32} {p0 nx t : Nat} {lv : Int32} (j : Nat) (hi : i.toInt = (j : Int)) (hj : j < 8192) (hf : zlk (zFt M) pc = some (p0, .baload, nx, lv, t)) (kk : Z X M f (zr X h m S) nx L (.int (S 3 j) :: st) Q) : Z X M f (zr X h m S) pc L (.int i :: .ref (m + 1) :: st) Q := z_bald j (zr_a rfl rfl) hf hi hj kk
theorem r_lv3 {i x : Int32} {p0 nx t : Nat} {lv : Int32} (j : Nat) (e : S 3 j = x) (hi : i.toInt = (j : Int)) (hj : j < 8192) (hf : zlk (zFt M) pc = some (p0, .baload, nx, lv, t)) (kk : Z X M f (zr X h m S) nx L (.int x :: st) Q) : Z X M f (zr X h m S) pc L (.int i :: .ref (m + 1) :: st) Q := r_ld3 j hi hj hf (by rw [e]; exact kk)
theorem zr_s4 {g : Nat → Int32} : zset (zr X h m S) (m + 2) (zI X 1024 g) = zr X h m (zV S 4 g) := zr_put (j := 2) rfl rfl (by
    intro i hi hne
    match i, hi, hne with
    | 0, _, _ => rfl
    | 1, _, _ => rfl
    | 2, _, hne => exact absurd rfl hne
    | 3, _, _ => rfl
    | 4, _, _ => rfl
    | 5, _, _ => rfl
    | 6, _, _ => rfl
    | 7, _, _ => rfl
    | 8, _, _ => rfl
    | 9, _, _ => rfl
    | 10, _, _ => rfl
    | 11, _, _ => rfl
    | 12, _, _ => rfl
    | 13, _, _ => rfl
    | 14, _, _ => rfl
    | 15, _, _ => rfl
    | 16, _, _ => rfl
    | 17, _, _ => rfl
    | 18, _, _ => rfl
    | 19, _, _ => rfl
    | 20, _, _ => rfl
    | 21, _, _ => rfl
    | 22, _, _ => rfl
    | n + 23, hi, _ => omega)
theorem r_st4 {i x : Int32} {p0 nx t : Nat} {lv : Int32} (j : Nat) (hi : i.toInt = (j : Int)) (hj : j < 1024) (hf : zlk (zFt M) pc = some (p0, .iastore, nx, lv, t)) (kk : Z X M f (zr X h m (zV S 4 (upd (S 4) j x))) nx L st Q) : Z X M f (zr X h m S) pc L (.int x :: .int i :: .ref (m + 2) :: st) Q := z_iast j (zr_a rfl rfl) hf hi hj (by rw [zr_s4]; exact kk)
theorem r_ld4 {i : Int32} {p0 nx t : Nat} {lv : Int32} (j : Nat) (hi : i.toInt = (j : Int)) (hj : j < 1024) (hf : zlk (zFt M) pc = some (p0, .iaload, nx, lv, t)) (kk : Z X M f (zr X h m S) nx L (.int (S 4 j) :: st) Q) : Z X M f (zr X h m S) pc L (.int i :: .ref (m + 2) :: st) Q := z_iald j (zr_a rfl rfl) hf hi hj kk
theorem r_lv4 {i x : Int32} {p0 nx t : Nat} {lv : Int32} (j : Nat) (e : S 4 j = x) (hi : i.toInt = (j : Int)) (hj : j < 1024) (hf : zlk (zFt M) pc = some (p0, .iaload, nx, lv, t)) (kk : Z X M f (zr X h m S) nx L (.int x :: st) Q) : Z X M f (zr X h m S) pc L (.int i :: .ref (m + 2) :: st) Q := r_ld4 j hi hj hf (by rw [e]; exact kk)
theorem zr_s5 {g : Nat → Int32} : zset (zr X h m S) (m + 3) (zI X 40 g) = zr X h m (zV S 5 g) := zr_put (j := 3) rfl rfl (by
    intro i hi hne
    match i, hi, hne with
    | 0, _, _ => rfl
    | 1, _, _ => rfl
    | 2, _, _ => rfl
    | 3, _, hne => exact absurd rfl hne
    | 4, _, _ => rfl
    | 5, _, _ => rfl
    | 6, _, _ => rfl
    | 7, _, _ => rfl
    | 8, _, _ => rfl
    | 9, _, _ => rfl
    | 10, _, _ => rfl
    | 11, _, _ => rfl
    | 12, _, _ => rfl
    | 13, _, _ => rfl
    | 14, _, _ => rfl
    | 15, _, _ => rfl
    | 16, _, _ => rfl
    | 17, _, _ => rfl
    | 18, _, _ => rfl
    | 19, _, _ => rfl
    | 20, _, _ => rfl
    | 21, _, _ => rfl
    | 22, _, _ => rfl
    | n + 23, hi, _ => omega)
theorem r_st5 {i x : Int32} {p0 nx t : Nat} {lv : Int32} (j : Nat) (hi : i.toInt = (j : Int)) (hj : j < 40) (hf : zlk (zFt M) pc = some (p0, .iastore, nx, lv, t)) (kk : Z X M f (zr X h m (zV S 5 (upd (S 5) j x))) nx L st Q) : Z X M f (zr X h m S) pc L (.int x :: .int i :: .ref (m + 3) :: st) Q := z_iast j (zr_a rfl rfl) hf hi hj (by rw [zr_s5]; exact kk)
theorem r_ld5 {i : Int32} {p0 nx t : Nat} {lv : Int32} (j : Nat) (hi : i.toInt = (j : Int)) (hj : j < 40) (hf : zlk (zFt M) pc = some (p0, .iaload, nx, lv, t)) (kk : Z X M f (zr X h m S) nx L (.int (S 5 j) :: st) Q) : Z X M f (zr X h m S) pc L (.int i :: .ref (m + 3) :: st) Q := z_iald j (zr_a rfl rfl) hf hi hj kk
theorem r_lv5 {i x : Int32} {p0 nx t : Nat} {lv : Int32} (j : Nat) (e : S 5 j = x) (hi : i.toInt = (j : Int)) (hj : j < 40) (hf : zlk (zFt M) pc = some (p0, .iaload, nx, lv, t)) (kk : Z X M f (zr X h m S) nx L (.int x :: st) Q) : Z X M f (zr X h m S) pc L (.int i :: .ref (m + 3) :: st) Q := r_ld5 j hi hj hf (by rw [e]; exact kk)
theorem zr_s6 {g : Nat → Int32} : zset (zr X h m S) (m + 4) (zI X 40 g) = zr X h m (zV S 6 g) := zr_put (j := 4) rfl rfl (by
    intro i hi hne
    match i, hi, hne with
    | 0, _, _ => rfl
    | 1, _, _ => rfl
    | 2, _, _ => rfl
    | 3, _, _ => rfl
    | 4, _, hne => exact absurd rfl hne
    | 5, _, _ => rfl
    | 6, _, _ => rfl
    | 7, _, _ => rfl
    | 8, _, _ => rfl
    | 9, _, _ => rfl
    | 10, _, _ => rfl
    | 11, _, _ => rfl
    | 12, _, _ => rfl
    | 13, _, _ => rfl
    | 14, _, _ => rfl
    | 15, _, _ => rfl
    | 16, _, _ => rfl
    | 17, _, _ => rfl
    | 18, _, _ => rfl
    | 19, _, _ => rfl
    | 20, _, _ => rfl
    | 21, _, _ => rfl
    | 22, _, _ => rfl
    | n + 23, hi, _ => omega)
theorem r_st6 {i x : Int32} {p0 nx t : Nat} {lv : Int32} (j : Nat) (hi : i.toInt = (j : Int)) (hj : j < 40) (hf : zlk (zFt M) pc = some (p0, .iastore, nx, lv, t)) (kk : Z X M f (zr X h m (zV S 6 (upd (S 6) j x))) nx L st Q) : Z X M f (zr X h m S) pc L (.int x :: .int i :: .ref (m + 4) :: st) Q := z_iast j (zr_a rfl rfl) hf hi hj (by rw [zr_s6]; exact kk)
theorem r_ld6 {i : Int32} {p0 nx t : Nat} {lv : Int32} (j : Nat) (hi : i.toInt = (j : Int)) (hj : j < 40) (hf : zlk (zFt M) pc = some (p0, .iaload, nx, lv, t)) (kk : Z X M f (zr X h m S) nx L (.int (S 6 j) :: st) Q) : Z X M f (zr X h m S) pc L (.int i :: .ref (m + 4) :: st) Q := z_iald j (zr_a rfl rfl) hf hi hj kk
theorem r_lv6 {i x : Int32} {p0 nx t : Nat} {lv : Int32} (j : Nat) (e : S 6 j = x) (hi : i.toInt = (j : Int)) (hj : j < 40) (hf : zlk (zFt M) pc = some (p0, .iaload, nx, lv, t)) (kk : Z X M f (zr X h m S) nx L (.int x :: st) Q) : Z X M f (zr X h m S) pc L (.int i :: .ref (m + 4) :: st) Q := r_ld6 j hi hj hf (by rw [e]; exact kk)
theorem zr_s8 {g : Nat → Int32} : zset (zr X h m S) (m + 5) (zI X 24 g) = zr X h m (zV S 8 g) := zr_put (j := 5) rfl rfl (by
    intro i hi hne
    match i, hi, hne with
    | 0, _, _ => rfl
    | 1, _, _ => rfl
    | 2, _, _ => rfl
    | 3, _, _ => rfl
    | 4, _, _ => rfl
    | 5, _, hne => exact absurd rfl hne
    | 6, _, _ => rfl
    | 7, _, _ => rfl
    | 8, _, _ => rfl
    | 9, _, _ => rfl
    | 10, _, _ => rfl
    | 11, _, _ => rfl
    | 12, _, _ => rfl
    | 13, _, _ => rfl
    | 14, _, _ => rfl
    | 15, _, _ => rfl
    | 16, _, _ => rfl
    | 17, _, _ => rfl
    | 18, _, _ => rfl
    | 19, _, _ => rfl
    | 20, _, _ => rfl
    | 21, _, _ => rfl
    | 22, _, _ => rfl
    | n + 23, hi, _ => omega)
theorem r_st8 {i x : Int32} {p0 nx t : Nat} {lv : Int32} (j : Nat) (hi : i.toInt = (j : Int)) (hj : j < 24) (hf : zlk (zFt M) pc = some (p0, .iastore, nx, lv, t)) (kk : Z X M f (zr X h m (zV S 8 (upd (S 8) j x))) nx L st Q) : Z X M f (zr X h m S) pc L (.int x :: .int i :: .ref (m + 5) :: st) Q := z_iast j (zr_a rfl rfl) hf hi hj (by rw [zr_s8]; exact kk)
theorem r_ld8 {i : Int32} {p0 nx t : Nat} {lv : Int32} (j : Nat) (hi : i.toInt = (j : Int)) (hj : j < 24) (hf : zlk (zFt M) pc = some (p0, .iaload, nx, lv, t)) (kk : Z X M f (zr X h m S) nx L (.int (S 8 j) :: st) Q) : Z X M f (zr X h m S) pc L (.int i :: .ref (m + 5) :: st) Q := z_iald j (zr_a rfl rfl) hf hi hj kk
theorem r_lv8 {i x : Int32} {p0 nx t : Nat} {lv : Int32} (j : Nat) (e : S 8 j = x) (hi : i.toInt = (j : Int)) (hj : j < 24) (hf : zlk (zFt M) pc = some (p0, .iaload, nx, lv, t)) (kk : Z X M f (zr X h m S) nx L (.int x :: st) Q) : Z X M f (zr X h m S) pc L (.int i :: .ref (m + 5) :: st) Q := r_ld8 j hi hj hf (by rw [e]; exact kk)
theorem zr_s9 {g : Nat → Int32} : zset (zr X h m S) (m + 6) (zI X 24 g) = zr X h m (zV S 9 g) := zr_put (j := 6) rfl rfl (by
    intro i hi hne
    match i, hi, hne with
    | 0, _, _ => rfl
    | 1, _, _ => rfl
    | 2, _, _ => rfl
    | 3, _, _ => rfl
    | 4, _, _ => rfl
    | 5, _, _ => rfl
    | 6, _, hne => exact absurd rfl hne
    | 7, _, _ => rfl
    | 8, _, _ => rfl
    | 9, _, _ => rfl
    | 10, _, _ => rfl
    | 11, _, _ => rfl
    | 12, _, _ => rfl
    | 13, _, _ => rfl
    | 14, _, _ => rfl
    | 15, _, _ => rfl
    | 16, _, _ => rfl
    | 17, _, _ => rfl
    | 18, _, _ => rfl
    | 19, _, _ => rfl
    | 20, _, _ => rfl
    | 21, _, _ => rfl
    | 22, _, _ => rfl
    | n + 23, hi, _ => omega)
theorem r_st9 {i x : Int32} {p0 nx t : Nat} {lv : Int32} (j : Nat) (hi : i.toInt = (j : Int)) (hj : j < 24) (hf : zlk (zFt M) pc = some (p0, .iastore, nx, lv, t)) (kk : Z X M f (zr X h m (zV S 9 (upd (S 9) j x))) nx L st Q) : Z X M f (zr X h m S) pc L (.int x :: .int i :: .ref (m + 6) :: st) Q := z_iast j (zr_a rfl rfl) hf hi hj (by rw [zr_s9]; exact kk)
theorem r_ld9 {i : Int32} {p0 nx t : Nat} {lv : Int32} (j : Nat) (hi : i.toInt = (j : Int)) (hj : j < 24) (hf : zlk (zFt M) pc = some (p0, .iaload, nx, lv, t)) (kk : Z X M f (zr X h m S) nx L (.int (S 9 j) :: st) Q) : Z X M f (zr X h m S) pc L (.int i :: .ref (m + 6) :: st) Q := z_iald j (zr_a rfl rfl) hf hi hj kk
theorem r_lv9 {i x : Int32} {p0 nx t : Nat} {lv : Int32} (j : Nat) (e : S 9 j = x) (hi : i.toInt = (j : Int)) (hj : j < 24) (hf : zlk (zFt M) pc = some (p0, .iaload, nx, lv, t)) (kk : Z X M f (zr X h m S) nx L (.int x :: st) Q) : Z X M f (zr X h m S) pc L (.int i :: .ref (m + 6) :: st) Q := r_ld9 j hi hj hf (by rw [e]; exact kk)
theorem zr_s10 {g : Nat → Int32} : zset (zr X h m S) (m + 7) (zI X 24 g) = zr X h m (zV S 10 g) := zr_put (j := 7) rfl rfl (by
    intro i hi hne
    match i, hi, hne with
    | 0, _, _ => rfl
    | 1, _, _ => rfl
    | 2, _, _ => rfl
    | 3, _, _ => rfl
    | 4, _, _ => rfl
    | 5, _, _ => rfl
    | 6, _, _ => rfl
    | 7, _, hne => exact absurd rfl hne
    | 8, _, _ => rfl
    | 9, _, _ => rfl
    | 10, _, _ => rfl
    | 11, _, _ => rfl
    | 12, _, _ => rfl
    | 13, _, _ => rfl
    | 14, _, _ => rfl
    | 15, _, _ => rfl
    | 16, _, _ => rfl
    | 17, _, _ => rfl
    | 18, _, _ => rfl
    | 19, _, _ => rfl
    | 20, _, _ => rfl
    | 21, _, _ => rfl
    | 22, _, _ => rfl
    | n + 23, hi, _ => omega)
theorem r_st10 {i x : Int32} {p0 nx t : Nat} {lv : Int32} (j : Nat) (hi : i.toInt = (j : Int)) (hj : j < 24) (hf : zlk (zFt M) pc = some (p0, .iastore, nx, lv, t)) (kk : Z X M f (zr X h m (zV S 10 (upd (S 10) j x))) nx L st Q) : Z X M f (zr X h m S) pc L (.int x :: .int i :: .ref (m + 7) :: st) Q := z_iast j (zr_a rfl rfl) hf hi hj (by rw [zr_s10]; exact kk)
theorem r_ld10 {i : Int32} {p0 nx t : Nat} {lv : Int32} (j : Nat) (hi : i.toInt = (j : Int)) (hj : j < 24) (hf : zlk (zFt M) pc = some (p0, .iaload, nx, lv, t)) (kk : Z X M f (zr X h m S) nx L (.int (S 10 j) :: st) Q) : Z X M f (zr X h m S) pc L (.int i :: .ref (m + 7) :: st) Q := z_iald j (zr_a rfl rfl) hf hi hj kk
theorem r_lv10 {i x : Int32} {p0 nx t : Nat} {lv : Int32} (j : Nat) (e : S 10 j = x) (hi : i.toInt = (j : Int)) (hj : j < 24) (hf : zlk (zFt M) pc = some (p0, .iaload, nx, lv, t)) (kk : Z X M f (zr X h m S) nx L (.int x :: st) Q) : Z X M f (zr X h m S) pc L (.int i :: .ref (m + 7) :: st) Q := r_ld10 j hi hj hf (by rw [e]; exact kk)
theorem zr_s11 {g : Nat → Int32} : zset (zr X h m S) (m + 8) (zI X 96 g) = zr X h m (zV S 11 g) := zr_put (j := 8) rfl rfl (by
    intro i hi hne
    match i, hi, hne with
    | 0, _, _ => rfl
    | 1, _, _ => rfl
    | 2, _, _ => rfl
    | 3, _, _ => rfl
    | 4, _, _ => rfl
    | 5, _, _ => rfl
    | 6, _, _ => rfl
    | 7, _, _ => rfl
    | 8, _, hne => exact absurd rfl hne
    | 9, _, _ => rfl
    | 10, _, _ => rfl
    | 11, _, _ => rfl
    | 12, _, _ => rfl
    | 13, _, _ => rfl
    | 14, _, _ => rfl
    | 15, _, _ => rfl
    | 16, _, _ => rfl
    | 17, _, _ => rfl
    | 18, _, _ => rfl
    | 19, _, _ => rfl
    | 20, _, _ => rfl
    | 21, _, _ => rfl
    | 22, _, _ => rfl
    | n + 23, hi, _ => omega)
theorem r_st11 {i x : Int32} {p0 nx t : Nat} {lv : Int32} (j : Nat) (hi : i.toInt = (j : Int)) (hj : j < 96) (hf : zlk (zFt M) pc = some (p0, .iastore, nx, lv, t)) (kk : Z X M f (zr X h m (zV S 11 (upd (S 11) j x))) nx L st Q) : Z X M f (zr X h m S) pc L (.int x :: .int i :: .ref (m + 8) :: st) Q := z_iast j (zr_a rfl rfl) hf hi hj (by rw [zr_s11]; exact kk)
theorem r_ld11 {i : Int32} {p0 nx t : Nat} {lv : Int32} (j : Nat) (hi : i.toInt = (j : Int)) (hj : j < 96) (hf : zlk (zFt M) pc = some (p0, .iaload, nx, lv, t)) (kk : Z X M f (zr X h m S) nx L (.int (S 11 j) :: st) Q) : Z X M f (zr X h m S) pc L (.int i :: .ref (m + 8) :: st) Q := z_iald j (zr_a rfl rfl) hf hi hj kk
theorem r_lv11 {i x : Int32} {p0 nx t : Nat} {lv : Int32} (j : Nat) (e : S 11 j = x) (hi : i.toInt = (j : Int)) (hj : j < 96) (hf : zlk (zFt M) pc = some (p0, .iaload, nx, lv, t)) (kk : Z X M f (zr X h m S) nx L (.int x :: st) Q) : Z X M f (zr X h m S) pc L (.int i :: .ref (m + 8) :: st) Q := r_ld11 j hi hj hf (by rw [e]; exact kk)
theorem zr_s12 {g : Nat → Int32} : zset (zr X h m S) (m + 9) (zI X 96 g) = zr X h m (zV S 12 g) := zr_put (j := 9) rfl rfl (by
    intro i hi hne
    match i, hi, hne with
    | 0, _, _ => rfl
    | 1, _, _ => rfl
    | 2, _, _ => rfl
    | 3, _, _ => rfl
    | 4, _, _ => rfl
    | 5, _, _ => rfl
    | 6, _, _ => rfl
    | 7, _, _ => rfl
    | 8, _, _ => rfl
    | 9, _, hne => exact absurd rfl hne
    | 10, _, _ => rfl
    | 11, _, _ => rfl
    | 12, _, _ => rfl
    | 13, _, _ => rfl
    | 14, _, _ => rfl
    | 15, _, _ => rfl
    | 16, _, _ => rfl
    | 17, _, _ => rfl
    | 18, _, _ => rfl
    | 19, _, _ => rfl
    | 20, _, _ => rfl
    | 21, _, _ => rfl
    | 22, _, _ => rfl
    | n + 23, hi, _ => omega)
theorem r_st12 {i x : Int32} {p0 nx t : Nat} {lv : Int32} (j : Nat) (hi : i.toInt = (j : Int)) (hj : j < 96) (hf : zlk (zFt M) pc = some (p0, .iastore, nx, lv, t)) (kk : Z X M f (zr X h m (zV S 12 (upd (S 12) j x))) nx L st Q) : Z X M f (zr X h m S) pc L (.int x :: .int i :: .ref (m + 9) :: st) Q := z_iast j (zr_a rfl rfl) hf hi hj (by rw [zr_s12]; exact kk)
theorem r_ld12 {i : Int32} {p0 nx t : Nat} {lv : Int32} (j : Nat) (hi : i.toInt = (j : Int)) (hj : j < 96) (hf : zlk (zFt M) pc = some (p0, .iaload, nx, lv, t)) (kk : Z X M f (zr X h m S) nx L (.int (S 12 j) :: st) Q) : Z X M f (zr X h m S) pc L (.int i :: .ref (m + 9) :: st) Q := z_iald j (zr_a rfl rfl) hf hi hj kk
theorem r_lv12 {i x : Int32} {p0 nx t : Nat} {lv : Int32} (j : Nat) (e : S 12 j = x) (hi : i.toInt = (j : Int)) (hj : j < 96) (hf : zlk (zFt M) pc = some (p0, .iaload, nx, lv, t)) (kk : Z X M f (zr X h m S) nx L (.int x :: st) Q) : Z X M f (zr X h m S) pc L (.int i :: .ref (m + 9) :: st) Q := r_ld12 j hi hj hf (by rw [e]; exact kk)
theorem zr_s13 {g : Nat → Int32} : zset (zr X h m S) (m + 10) (zZ X 96 g) = zr X h m (zV S 13 g) := zr_put (j := 10) rfl rfl (by
    intro i hi hne
    match i, hi, hne with
    | 0, _, _ => rfl
    | 1, _, _ => rfl
    | 2, _, _ => rfl
    | 3, _, _ => rfl
    | 4, _, _ => rfl
    | 5, _, _ => rfl
    | 6, _, _ => rfl
    | 7, _, _ => rfl
    | 8, _, _ => rfl
    | 9, _, _ => rfl
    | 10, _, hne => exact absurd rfl hne
    | 11, _, _ => rfl
    | 12, _, _ => rfl
    | 13, _, _ => rfl
    | 14, _, _ => rfl
    | 15, _, _ => rfl
    | 16, _, _ => rfl
    | 17, _, _ => rfl
    | 18, _, _ => rfl
    | 19, _, _ => rfl
    | 20, _, _ => rfl
    | 21, _, _ => rfl
    | 22, _, _ => rfl
    | n + 23, hi, _ => omega)
theorem r_st13 {i x : Int32} {p0 nx t : Nat} {lv : Int32} (j : Nat) (hi : i.toInt = (j : Int)) (hj : j < 96) (hf : zlk (zFt M) pc = some (p0, .bastore, nx, lv, t)) (kk : Z X M f (zr X h m (zV S 13 (upd (S 13) j (vp_nar .boolean x)))) nx L st Q) : Z X M f (zr X h m S) pc L (.int x :: .int i :: .ref (m + 10) :: st) Q := z_zast j (zr_a rfl rfl) hf hi hj (by rw [zr_s13]; exact kk)
theorem r_ld13 {i : Int32} {p0 nx t : Nat} {lv : Int32} (j : Nat) (hi : i.toInt = (j : Int)) (hj : j < 96) (hf : zlk (zFt M) pc = some (p0, .baload, nx, lv, t)) (kk : Z X M f (zr X h m S) nx L (.int (S 13 j) :: st) Q) : Z X M f (zr X h m S) pc L (.int i :: .ref (m + 10) :: st) Q := z_zald j (zr_a rfl rfl) hf hi hj kk
theorem r_lv13 {i x : Int32} {p0 nx t : Nat} {lv : Int32} (j : Nat) (e : S 13 j = x) (hi : i.toInt = (j : Int)) (hj : j < 96) (hf : zlk (zFt M) pc = some (p0, .baload, nx, lv, t)) (kk : Z X M f (zr X h m S) nx L (.int x :: st) Q) : Z X M f (zr X h m S) pc L (.int i :: .ref (m + 10) :: st) Q := r_ld13 j hi hj hf (by rw [e]; exact kk)
theorem zr_s15 {g : Nat → Int32} : zset (zr X h m S) (m + 11) (zI X 520 g) = zr X h m (zV S 15 g) := zr_put (j := 11) rfl rfl (by
    intro i hi hne
    match i, hi, hne with
    | 0, _, _ => rfl
    | 1, _, _ => rfl
    | 2, _, _ => rfl
    | 3, _, _ => rfl
    | 4, _, _ => rfl
    | 5, _, _ => rfl
    | 6, _, _ => rfl
    | 7, _, _ => rfl
    | 8, _, _ => rfl
    | 9, _, _ => rfl
    | 10, _, _ => rfl
    | 11, _, hne => exact absurd rfl hne
    | 12, _, _ => rfl
    | 13, _, _ => rfl
    | 14, _, _ => rfl
    | 15, _, _ => rfl
    | 16, _, _ => rfl
    | 17, _, _ => rfl
    | 18, _, _ => rfl
    | 19, _, _ => rfl
    | 20, _, _ => rfl
    | 21, _, _ => rfl
    | 22, _, _ => rfl
    | n + 23, hi, _ => omega)
theorem r_st15 {i x : Int32} {p0 nx t : Nat} {lv : Int32} (j : Nat) (hi : i.toInt = (j : Int)) (hj : j < 520) (hf : zlk (zFt M) pc = some (p0, .iastore, nx, lv, t)) (kk : Z X M f (zr X h m (zV S 15 (upd (S 15) j x))) nx L st Q) : Z X M f (zr X h m S) pc L (.int x :: .int i :: .ref (m + 11) :: st) Q := z_iast j (zr_a rfl rfl) hf hi hj (by rw [zr_s15]; exact kk)
theorem r_ld15 {i : Int32} {p0 nx t : Nat} {lv : Int32} (j : Nat) (hi : i.toInt = (j : Int)) (hj : j < 520) (hf : zlk (zFt M) pc = some (p0, .iaload, nx, lv, t)) (kk : Z X M f (zr X h m S) nx L (.int (S 15 j) :: st) Q) : Z X M f (zr X h m S) pc L (.int i :: .ref (m + 11) :: st) Q := z_iald j (zr_a rfl rfl) hf hi hj kk
theorem r_lv15 {i x : Int32} {p0 nx t : Nat} {lv : Int32} (j : Nat) (e : S 15 j = x) (hi : i.toInt = (j : Int)) (hj : j < 520) (hf : zlk (zFt M) pc = some (p0, .iaload, nx, lv, t)) (kk : Z X M f (zr X h m S) nx L (.int x :: st) Q) : Z X M f (zr X h m S) pc L (.int i :: .ref (m + 11) :: st) Q := r_ld15 j hi hj hf (by rw [e]; exact kk)
theorem zr_s16 {g : Nat → Int32} : zset (zr X h m S) (m + 12) (zI X 520 g) = zr X h m (zV S 16 g) := zr_put (j := 12) rfl rfl (by
    intro i hi hne
    match i, hi, hne with
    | 0, _, _ => rfl
    | 1, _, _ => rfl
    | 2, _, _ => rfl
    | 3, _, _ => rfl
    | 4, _, _ => rfl
    | 5, _, _ => rfl
    | 6, _, _ => rfl
    | 7, _, _ => rfl
    | 8, _, _ => rfl
    | 9, _, _ => rfl
    | 10, _, _ => rfl
    | 11, _, _ => rfl
    | 12, _, hne => exact absurd rfl hne
    | 13, _, _ => rfl
    | 14, _, _ => rfl
    | 15, _, _ => rfl
    | 16, _, _ => rfl
    | 17, _, _ => rfl
    | 18, _, _ => rfl
    | 19, _, _ => rfl
    | 20, _, _ => rfl
    | 21, _, _ => rfl
    | 22, _, _ => rfl
    | n + 23, hi, _ => omega)
theorem r_st16 {i x : Int32} {p0 nx t : Nat} {lv : Int32} (j : Nat) (hi : i.toInt = (j : Int)) (hj : j < 520) (hf : zlk (zFt M) pc = some (p0, .iastore, nx, lv, t)) (kk : Z X M f (zr X h m (zV S 16 (upd (S 16) j x))) nx L st Q) : Z X M f (zr X h m S) pc L (.int x :: .int i :: .ref (m + 12) :: st) Q := z_iast j (zr_a rfl rfl) hf hi hj (by rw [zr_s16]; exact kk)
theorem r_ld16 {i : Int32} {p0 nx t : Nat} {lv : Int32} (j : Nat) (hi : i.toInt = (j : Int)) (hj : j < 520) (hf : zlk (zFt M) pc = some (p0, .iaload, nx, lv, t)) (kk : Z X M f (zr X h m S) nx L (.int (S 16 j) :: st) Q) : Z X M f (zr X h m S) pc L (.int i :: .ref (m + 12) :: st) Q := z_iald j (zr_a rfl rfl) hf hi hj kk
theorem r_lv16 {i x : Int32} {p0 nx t : Nat} {lv : Int32} (j : Nat) (e : S 16 j = x) (hi : i.toInt = (j : Int)) (hj : j < 520) (hf : zlk (zFt M) pc = some (p0, .iaload, nx, lv, t)) (kk : Z X M f (zr X h m S) nx L (.int x :: st) Q) : Z X M f (zr X h m S) pc L (.int i :: .ref (m + 12) :: st) Q := r_ld16 j hi hj hf (by rw [e]; exact kk)
theorem zr_s17 {g : Nat → Int32} : zset (zr X h m S) (m + 13) (zI X 520 g) = zr X h m (zV S 17 g) := zr_put (j := 13) rfl rfl (by
    intro i hi hne
    match i, hi, hne with
    | 0, _, _ => rfl
    | 1, _, _ => rfl
    | 2, _, _ => rfl
    | 3, _, _ => rfl
    | 4, _, _ => rfl
    | 5, _, _ => rfl
    | 6, _, _ => rfl
    | 7, _, _ => rfl
    | 8, _, _ => rfl
    | 9, _, _ => rfl
    | 10, _, _ => rfl
    | 11, _, _ => rfl
    | 12, _, _ => rfl
    | 13, _, hne => exact absurd rfl hne
    | 14, _, _ => rfl
    | 15, _, _ => rfl
    | 16, _, _ => rfl
    | 17, _, _ => rfl
    | 18, _, _ => rfl
    | 19, _, _ => rfl
    | 20, _, _ => rfl
    | 21, _, _ => rfl
    | 22, _, _ => rfl
    | n + 23, hi, _ => omega)
theorem r_st17 {i x : Int32} {p0 nx t : Nat} {lv : Int32} (j : Nat) (hi : i.toInt = (j : Int)) (hj : j < 520) (hf : zlk (zFt M) pc = some (p0, .iastore, nx, lv, t)) (kk : Z X M f (zr X h m (zV S 17 (upd (S 17) j x))) nx L st Q) : Z X M f (zr X h m S) pc L (.int x :: .int i :: .ref (m + 13) :: st) Q := z_iast j (zr_a rfl rfl) hf hi hj (by rw [zr_s17]; exact kk)
theorem r_ld17 {i : Int32} {p0 nx t : Nat} {lv : Int32} (j : Nat) (hi : i.toInt = (j : Int)) (hj : j < 520) (hf : zlk (zFt M) pc = some (p0, .iaload, nx, lv, t)) (kk : Z X M f (zr X h m S) nx L (.int (S 17 j) :: st) Q) : Z X M f (zr X h m S) pc L (.int i :: .ref (m + 13) :: st) Q := z_iald j (zr_a rfl rfl) hf hi hj kk
theorem r_lv17 {i x : Int32} {p0 nx t : Nat} {lv : Int32} (j : Nat) (e : S 17 j = x) (hi : i.toInt = (j : Int)) (hj : j < 520) (hf : zlk (zFt M) pc = some (p0, .iaload, nx, lv, t)) (kk : Z X M f (zr X h m S) nx L (.int x :: st) Q) : Z X M f (zr X h m S) pc L (.int i :: .ref (m + 13) :: st) Q := r_ld17 j hi hj hf (by rw [e]; exact kk)
theorem zr_s18 {g : Nat → Int32} : zset (zr X h m S) (m + 14) (zI X 520 g) = zr X h m (zV S 18 g) := zr_put (j := 14) rfl rfl (by
    intro i hi hne
    match i, hi, hne with
    | 0, _, _ => rfl
    | 1, _, _ => rfl
    | 2, _, _ => rfl
    | 3, _, _ => rfl
    | 4, _, _ => rfl
    | 5, _, _ => rfl
    | 6, _, _ => rfl
    | 7, _, _ => rfl
    | 8, _, _ => rfl
    | 9, _, _ => rfl
    | 10, _, _ => rfl
    | 11, _, _ => rfl
    | 12, _, _ => rfl
    | 13, _, _ => rfl
    | 14, _, hne => exact absurd rfl hne
    | 15, _, _ => rfl
    | 16, _, _ => rfl
    | 17, _, _ => rfl
    | 18, _, _ => rfl
    | 19, _, _ => rfl
    | 20, _, _ => rfl
    | 21, _, _ => rfl
    | 22, _, _ => rfl
    | n + 23, hi, _ => omega)
theorem r_st18 {i x : Int32} {p0 nx t : Nat} {lv : Int32} (j : Nat) (hi : i.toInt = (j : Int)) (hj : j < 520) (hf : zlk (zFt M) pc = some (p0, .iastore, nx, lv, t)) (kk : Z X M f (zr X h m (zV S 18 (upd (S 18) j x))) nx L st Q) : Z X M f (zr X h m S) pc L (.int x :: .int i :: .ref (m + 14) :: st) Q := z_iast j (zr_a rfl rfl) hf hi hj (by rw [zr_s18]; exact kk)
theorem r_ld18 {i : Int32} {p0 nx t : Nat} {lv : Int32} (j : Nat) (hi : i.toInt = (j : Int)) (hj : j < 520) (hf : zlk (zFt M) pc = some (p0, .iaload, nx, lv, t)) (kk : Z X M f (zr X h m S) nx L (.int (S 18 j) :: st) Q) : Z X M f (zr X h m S) pc L (.int i :: .ref (m + 14) :: st) Q := z_iald j (zr_a rfl rfl) hf hi hj kk
theorem r_lv18 {i x : Int32} {p0 nx t : Nat} {lv : Int32} (j : Nat) (e : S 18 j = x) (hi : i.toInt = (j : Int)) (hj : j < 520) (hf : zlk (zFt M) pc = some (p0, .iaload, nx, lv, t)) (kk : Z X M f (zr X h m S) nx L (.int x :: st) Q) : Z X M f (zr X h m S) pc L (.int i :: .ref (m + 14) :: st) Q := r_ld18 j hi hj hf (by rw [e]; exact kk)
theorem zr_s19 {g : Nat → Int32} : zset (zr X h m S) (m + 15) (zI X 520 g) = zr X h m (zV S 19 g) := zr_put (j := 15) rfl rfl (by
    intro i hi hne
    match i, hi, hne with
    | 0, _, _ => rfl
    | 1, _, _ => rfl
    | 2, _, _ => rfl
    | 3, _, _ => rfl
    | 4, _, _ => rfl
    | 5, _, _ => rfl
    | 6, _, _ => rfl
    | 7, _, _ => rfl
    | 8, _, _ => rfl
    | 9, _, _ => rfl
    | 10, _, _ => rfl
    | 11, _, _ => rfl
    | 12, _, _ => rfl
    | 13, _, _ => rfl
    | 14, _, _ => rfl
    | 15, _, hne => exact absurd rfl hne
    | 16, _, _ => rfl
    | 17, _, _ => rfl
    | 18, _, _ => rfl
    | 19, _, _ => rfl
    | 20, _, _ => rfl
    | 21, _, _ => rfl
    | 22, _, _ => rfl
    | n + 23, hi, _ => omega)
theorem r_st19 {i x : Int32} {p0 nx t : Nat} {lv : Int32} (j : Nat) (hi : i.toInt = (j : Int)) (hj : j < 520) (hf : zlk (zFt M) pc = some (p0, .iastore, nx, lv, t)) (kk : Z X M f (zr X h m (zV S 19 (upd (S 19) j x))) nx L st Q) : Z X M f (zr X h m S) pc L (.int x :: .int i :: .ref (m + 15) :: st) Q := z_iast j (zr_a rfl rfl) hf hi hj (by rw [zr_s19]; exact kk)
theorem r_ld19 {i : Int32} {p0 nx t : Nat} {lv : Int32} (j : Nat) (hi : i.toInt = (j : Int)) (hj : j < 520) (hf : zlk (zFt M) pc = some (p0, .iaload, nx, lv, t)) (kk : Z X M f (zr X h m S) nx L (.int (S 19 j) :: st) Q) : Z X M f (zr X h m S) pc L (.int i :: .ref (m + 15) :: st) Q := z_iald j (zr_a rfl rfl) hf hi hj kk
theorem r_lv19 {i x : Int32} {p0 nx t : Nat} {lv : Int32} (j : Nat) (e : S 19 j = x) (hi : i.toInt = (j : Int)) (hj : j < 520) (hf : zlk (zFt M) pc = some (p0, .iaload, nx, lv, t)) (kk : Z X M f (zr X h m S) nx L (.int x :: st) Q) : Z X M f (zr X h m S) pc L (.int i :: .ref (m + 15) :: st) Q := r_ld19 j hi hj hf (by rw [e]; exact kk)
theorem zr_s20 {g : Nat → Int32} : zset (zr X h m S) (m + 16) (zI X 520 g) = zr X h m (zV S 20 g) := zr_put (j := 16) rfl rfl (by
    intro i hi hne
    match i, hi, hne with
    | 0, _, _ => rfl
    | 1, _, _ => rfl
    | 2, _, _ => rfl
    | 3, _, _ => rfl
    | 4, _, _ => rfl
    | 5, _, _ => rfl
    | 6, _, _ => rfl
    | 7, _, _ => rfl
    | 8, _, _ => rfl
    | 9, _, _ => rfl
    | 10, _, _ => rfl
    | 11, _, _ => rfl
    | 12, _, _ => rfl
    | 13, _, _ => rfl
    | 14, _, _ => rfl
    | 15, _, _ => rfl
    | 16, _, hne => exact absurd rfl hne
    | 17, _, _ => rfl
    | 18, _, _ => rfl
    | 19, _, _ => rfl
    | 20, _, _ => rfl
    | 21, _, _ => rfl
    | 22, _, _ => rfl
    | n + 23, hi, _ => omega)
theorem r_st20 {i x : Int32} {p0 nx t : Nat} {lv : Int32} (j : Nat) (hi : i.toInt = (j : Int)) (hj : j < 520) (hf : zlk (zFt M) pc = some (p0, .iastore, nx, lv, t)) (kk : Z X M f (zr X h m (zV S 20 (upd (S 20) j x))) nx L st Q) : Z X M f (zr X h m S) pc L (.int x :: .int i :: .ref (m + 16) :: st) Q := z_iast j (zr_a rfl rfl) hf hi hj (by rw [zr_s20]; exact kk)
theorem r_ld20 {i : Int32} {p0 nx t : Nat} {lv : Int32} (j : Nat) (hi : i.toInt = (j : Int)) (hj : j < 520) (hf : zlk (zFt M) pc = some (p0, .iaload, nx, lv, t)) (kk : Z X M f (zr X h m S) nx L (.int (S 20 j) :: st) Q) : Z X M f (zr X h m S) pc L (.int i :: .ref (m + 16) :: st) Q := z_iald j (zr_a rfl rfl) hf hi hj kk
theorem r_lv20 {i x : Int32} {p0 nx t : Nat} {lv : Int32} (j : Nat) (e : S 20 j = x) (hi : i.toInt = (j : Int)) (hj : j < 520) (hf : zlk (zFt M) pc = some (p0, .iaload, nx, lv, t)) (kk : Z X M f (zr X h m S) nx L (.int x :: st) Q) : Z X M f (zr X h m S) pc L (.int i :: .ref (m + 16) :: st) Q := r_ld20 j hi hj hf (by rw [e]; exact kk)
theorem zr_s21 {g : Nat → Int32} : zset (zr X h m S) (m + 17) (zI X 520 g) = zr X h m (zV S 21 g) := zr_put (j := 17) rfl rfl (by
    intro i hi hne
    match i, hi, hne with
    | 0, _, _ => rfl
    | 1, _, _ => rfl
    | 2, _, _ => rfl
    | 3, _, _ => rfl
    | 4, _, _ => rfl
    | 5, _, _ => rfl
    | 6, _, _ => rfl
    | 7, _, _ => rfl
    | 8, _, _ => rfl
    | 9, _, _ => rfl
    | 10, _, _ => rfl
    | 11, _, _ => rfl
    | 12, _, _ => rfl
    | 13, _, _ => rfl
    | 14, _, _ => rfl
    | 15, _, _ => rfl
    | 16, _, _ => rfl
    | 17, _, hne => exact absurd rfl hne
    | 18, _, _ => rfl
    | 19, _, _ => rfl
    | 20, _, _ => rfl
    | 21, _, _ => rfl
    | 22, _, _ => rfl
    | n + 23, hi, _ => omega)
theorem r_st21 {i x : Int32} {p0 nx t : Nat} {lv : Int32} (j : Nat) (hi : i.toInt = (j : Int)) (hj : j < 520) (hf : zlk (zFt M) pc = some (p0, .iastore, nx, lv, t)) (kk : Z X M f (zr X h m (zV S 21 (upd (S 21) j x))) nx L st Q) : Z X M f (zr X h m S) pc L (.int x :: .int i :: .ref (m + 17) :: st) Q := z_iast j (zr_a rfl rfl) hf hi hj (by rw [zr_s21]; exact kk)
theorem r_ld21 {i : Int32} {p0 nx t : Nat} {lv : Int32} (j : Nat) (hi : i.toInt = (j : Int)) (hj : j < 520) (hf : zlk (zFt M) pc = some (p0, .iaload, nx, lv, t)) (kk : Z X M f (zr X h m S) nx L (.int (S 21 j) :: st) Q) : Z X M f (zr X h m S) pc L (.int i :: .ref (m + 17) :: st) Q := z_iald j (zr_a rfl rfl) hf hi hj kk
theorem r_lv21 {i x : Int32} {p0 nx t : Nat} {lv : Int32} (j : Nat) (e : S 21 j = x) (hi : i.toInt = (j : Int)) (hj : j < 520) (hf : zlk (zFt M) pc = some (p0, .iaload, nx, lv, t)) (kk : Z X M f (zr X h m S) nx L (.int x :: st) Q) : Z X M f (zr X h m S) pc L (.int i :: .ref (m + 17) :: st) Q := r_ld21 j hi hj hf (by rw [e]; exact kk)
theorem zr_s22 {g : Nat → Int32} : zset (zr X h m S) (m + 18) (zI X 520 g) = zr X h m (zV S 22 g) := zr_put (j := 18) rfl rfl (by
    intro i hi hne
    match i, hi, hne with
    | 0, _, _ => rfl
    | 1, _, _ => rfl
    | 2, _, _ => rfl
    | 3, _, _ => rfl
    | 4, _, _ => rfl
    | 5, _, _ => rfl
    | 6, _, _ => rfl
    | 7, _, _ => rfl
    | 8, _, _ => rfl
    | 9, _, _ => rfl
    | 10, _, _ => rfl
    | 11, _, _ => rfl
    | 12, _, _ => rfl
    | 13, _, _ => rfl
    | 14, _, _ => rfl
    | 15, _, _ => rfl
    | 16, _, _ => rfl
    | 17, _, _ => rfl
    | 18, _, hne => exact absurd rfl hne
    | 19, _, _ => rfl
    | 20, _, _ => rfl
    | 21, _, _ => rfl
    | 22, _, _ => rfl
    | n + 23, hi, _ => omega)
theorem r_st22 {i x : Int32} {p0 nx t : Nat} {lv : Int32} (j : Nat) (hi : i.toInt = (j : Int)) (hj : j < 520) (hf : zlk (zFt M) pc = some (p0, .iastore, nx, lv, t)) (kk : Z X M f (zr X h m (zV S 22 (upd (S 22) j x))) nx L st Q) : Z X M f (zr X h m S) pc L (.int x :: .int i :: .ref (m + 18) :: st) Q := z_iast j (zr_a rfl rfl) hf hi hj (by rw [zr_s22]; exact kk)
theorem r_ld22 {i : Int32} {p0 nx t : Nat} {lv : Int32} (j : Nat) (hi : i.toInt = (j : Int)) (hj : j < 520) (hf : zlk (zFt M) pc = some (p0, .iaload, nx, lv, t)) (kk : Z X M f (zr X h m S) nx L (.int (S 22 j) :: st) Q) : Z X M f (zr X h m S) pc L (.int i :: .ref (m + 18) :: st) Q := z_iald j (zr_a rfl rfl) hf hi hj kk
theorem r_lv22 {i x : Int32} {p0 nx t : Nat} {lv : Int32} (j : Nat) (e : S 22 j = x) (hi : i.toInt = (j : Int)) (hj : j < 520) (hf : zlk (zFt M) pc = some (p0, .iaload, nx, lv, t)) (kk : Z X M f (zr X h m S) nx L (.int x :: st) Q) : Z X M f (zr X h m S) pc L (.int i :: .ref (m + 18) :: st) Q := r_ld22 j hi hj hf (by rw [e]; exact kk)
theorem zr_s24 {g : Nat → Int32} : zset (zr X h m S) (m + 19) (zI X 520 g) = zr X h m (zV S 24 g) := zr_put (j := 19) rfl rfl (by
    intro i hi hne
    match i, hi, hne with
    | 0, _, _ => rfl
    | 1, _, _ => rfl
    | 2, _, _ => rfl
    | 3, _, _ => rfl
    | 4, _, _ => rfl
    | 5, _, _ => rfl
    | 6, _, _ => rfl
    | 7, _, _ => rfl
    | 8, _, _ => rfl
    | 9, _, _ => rfl
    | 10, _, _ => rfl
    | 11, _, _ => rfl
    | 12, _, _ => rfl
    | 13, _, _ => rfl
    | 14, _, _ => rfl
    | 15, _, _ => rfl
    | 16, _, _ => rfl
    | 17, _, _ => rfl
    | 18, _, _ => rfl
    | 19, _, hne => exact absurd rfl hne
    | 20, _, _ => rfl
    | 21, _, _ => rfl
    | 22, _, _ => rfl
    | n + 23, hi, _ => omega)
theorem r_st24 {i x : Int32} {p0 nx t : Nat} {lv : Int32} (j : Nat) (hi : i.toInt = (j : Int)) (hj : j < 520) (hf : zlk (zFt M) pc = some (p0, .iastore, nx, lv, t)) (kk : Z X M f (zr X h m (zV S 24 (upd (S 24) j x))) nx L st Q) : Z X M f (zr X h m S) pc L (.int x :: .int i :: .ref (m + 19) :: st) Q := z_iast j (zr_a rfl rfl) hf hi hj (by rw [zr_s24]; exact kk)
theorem r_ld24 {i : Int32} {p0 nx t : Nat} {lv : Int32} (j : Nat) (hi : i.toInt = (j : Int)) (hj : j < 520) (hf : zlk (zFt M) pc = some (p0, .iaload, nx, lv, t)) (kk : Z X M f (zr X h m S) nx L (.int (S 24 j) :: st) Q) : Z X M f (zr X h m S) pc L (.int i :: .ref (m + 19) :: st) Q := z_iald j (zr_a rfl rfl) hf hi hj kk
theorem r_lv24 {i x : Int32} {p0 nx t : Nat} {lv : Int32} (j : Nat) (e : S 24 j = x) (hi : i.toInt = (j : Int)) (hj : j < 520) (hf : zlk (zFt M) pc = some (p0, .iaload, nx, lv, t)) (kk : Z X M f (zr X h m S) nx L (.int x :: st) Q) : Z X M f (zr X h m S) pc L (.int i :: .ref (m + 19) :: st) Q := r_ld24 j hi hj hf (by rw [e]; exact kk)
theorem zr_s26 {g : Nat → Int32} : zset (zr X h m S) (m + 20) (zI X 5300 g) = zr X h m (zV S 26 g) := zr_put (j := 20) rfl rfl (by
    intro i hi hne
    match i, hi, hne with
    | 0, _, _ => rfl
    | 1, _, _ => rfl
    | 2, _, _ => rfl
    | 3, _, _ => rfl
    | 4, _, _ => rfl
    | 5, _, _ => rfl
    | 6, _, _ => rfl
    | 7, _, _ => rfl
    | 8, _, _ => rfl
    | 9, _, _ => rfl
    | 10, _, _ => rfl
    | 11, _, _ => rfl
    | 12, _, _ => rfl
    | 13, _, _ => rfl
    | 14, _, _ => rfl
    | 15, _, _ => rfl
    | 16, _, _ => rfl
    | 17, _, _ => rfl
    | 18, _, _ => rfl
    | 19, _, _ => rfl
    | 20, _, hne => exact absurd rfl hne
    | 21, _, _ => rfl
    | 22, _, _ => rfl
    | n + 23, hi, _ => omega)
theorem r_st26 {i x : Int32} {p0 nx t : Nat} {lv : Int32} (j : Nat) (hi : i.toInt = (j : Int)) (hj : j < 5300) (hf : zlk (zFt M) pc = some (p0, .iastore, nx, lv, t)) (kk : Z X M f (zr X h m (zV S 26 (upd (S 26) j x))) nx L st Q) : Z X M f (zr X h m S) pc L (.int x :: .int i :: .ref (m + 20) :: st) Q := z_iast j (zr_a rfl rfl) hf hi hj (by rw [zr_s26]; exact kk)
theorem r_ld26 {i : Int32} {p0 nx t : Nat} {lv : Int32} (j : Nat) (hi : i.toInt = (j : Int)) (hj : j < 5300) (hf : zlk (zFt M) pc = some (p0, .iaload, nx, lv, t)) (kk : Z X M f (zr X h m S) nx L (.int (S 26 j) :: st) Q) : Z X M f (zr X h m S) pc L (.int i :: .ref (m + 20) :: st) Q := z_iald j (zr_a rfl rfl) hf hi hj kk
theorem r_lv26 {i x : Int32} {p0 nx t : Nat} {lv : Int32} (j : Nat) (e : S 26 j = x) (hi : i.toInt = (j : Int)) (hj : j < 5300) (hf : zlk (zFt M) pc = some (p0, .iaload, nx, lv, t)) (kk : Z X M f (zr X h m S) nx L (.int x :: st) Q) : Z X M f (zr X h m S) pc L (.int i :: .ref (m + 20) :: st) Q := r_ld26 j hi hj hf (by rw [e]; exact kk)
theorem zr_s28 {g : Nat → Int32} : zset (zr X h m S) (m + 21) (zZ X 520 g) = zr X h m (zV S 28 g) := zr_put (j := 21) rfl rfl (by
    intro i hi hne
    match i, hi, hne with
    | 0, _, _ => rfl
    | 1, _, _ => rfl
    | 2, _, _ => rfl
    | 3, _, _ => rfl
    | 4, _, _ => rfl
    | 5, _, _ => rfl
    | 6, _, _ => rfl
    | 7, _, _ => rfl
    | 8, _, _ => rfl
    | 9, _, _ => rfl
    | 10, _, _ => rfl
    | 11, _, _ => rfl
    | 12, _, _ => rfl
    | 13, _, _ => rfl
    | 14, _, _ => rfl
    | 15, _, _ => rfl
    | 16, _, _ => rfl
    | 17, _, _ => rfl
    | 18, _, _ => rfl
    | 19, _, _ => rfl
    | 20, _, _ => rfl
    | 21, _, hne => exact absurd rfl hne
    | 22, _, _ => rfl
    | n + 23, hi, _ => omega)
theorem r_st28 {i x : Int32} {p0 nx t : Nat} {lv : Int32} (j : Nat) (hi : i.toInt = (j : Int)) (hj : j < 520) (hf : zlk (zFt M) pc = some (p0, .bastore, nx, lv, t)) (kk : Z X M f (zr X h m (zV S 28 (upd (S 28) j (vp_nar .boolean x)))) nx L st Q) : Z X M f (zr X h m S) pc L (.int x :: .int i :: .ref (m + 21) :: st) Q := z_zast j (zr_a rfl rfl) hf hi hj (by rw [zr_s28]; exact kk)
theorem r_ld28 {i : Int32} {p0 nx t : Nat} {lv : Int32} (j : Nat) (hi : i.toInt = (j : Int)) (hj : j < 520) (hf : zlk (zFt M) pc = some (p0, .baload, nx, lv, t)) (kk : Z X M f (zr X h m S) nx L (.int (S 28 j) :: st) Q) : Z X M f (zr X h m S) pc L (.int i :: .ref (m + 21) :: st) Q := z_zald j (zr_a rfl rfl) hf hi hj kk
theorem r_lv28 {i x : Int32} {p0 nx t : Nat} {lv : Int32} (j : Nat) (e : S 28 j = x) (hi : i.toInt = (j : Int)) (hj : j < 520) (hf : zlk (zFt M) pc = some (p0, .baload, nx, lv, t)) (kk : Z X M f (zr X h m S) nx L (.int x :: st) Q) : Z X M f (zr X h m S) pc L (.int i :: .ref (m + 21) :: st) Q := r_ld28 j hi hj hf (by rw [e]; exact kk)
theorem zr_s29 {g : Nat → Int32} : zset (zr X h m S) (m + 22) (zY X 8192 g) = zr X h m (zV S 29 g) := zr_put (j := 22) rfl rfl (by
    intro i hi hne
    match i, hi, hne with
    | 0, _, _ => rfl
    | 1, _, _ => rfl
    | 2, _, _ => rfl
    | 3, _, _ => rfl
    | 4, _, _ => rfl
    | 5, _, _ => rfl
    | 6, _, _ => rfl
    | 7, _, _ => rfl
    | 8, _, _ => rfl
    | 9, _, _ => rfl
    | 10, _, _ => rfl
    | 11, _, _ => rfl
    | 12, _, _ => rfl
    | 13, _, _ => rfl
    | 14, _, _ => rfl
    | 15, _, _ => rfl
    | 16, _, _ => rfl
    | 17, _, _ => rfl
    | 18, _, _ => rfl
    | 19, _, _ => rfl
    | 20, _, _ => rfl
    | 21, _, _ => rfl
    | 22, _, hne => exact absurd rfl hne
    | n + 23, hi, _ => omega)
theorem r_st29 {i x : Int32} {p0 nx t : Nat} {lv : Int32} (j : Nat) (hi : i.toInt = (j : Int)) (hj : j < 8192) (hf : zlk (zFt M) pc = some (p0, .bastore, nx, lv, t)) (kk : Z X M f (zr X h m (zV S 29 (upd (S 29) j x.toInt8.toInt32))) nx L st Q) : Z X M f (zr X h m S) pc L (.int x :: .int i :: .ref (m + 22) :: st) Q := z_bast j (zr_a rfl rfl) hf hi hj (by rw [zr_s29]; exact kk)
theorem r_ld29 {i : Int32} {p0 nx t : Nat} {lv : Int32} (j : Nat) (hi : i.toInt = (j : Int)) (hj : j < 8192) (hf : zlk (zFt M) pc = some (p0, .baload, nx, lv, t)) (kk : Z X M f (zr X h m S) nx L (.int (S 29 j) :: st) Q) : Z X M f (zr X h m S) pc L (.int i :: .ref (m + 22) :: st) Q := z_bald j (zr_a rfl rfl) hf hi hj kk
theorem r_lv29 {i x : Int32} {p0 nx t : Nat} {lv : Int32} (j : Nat) (e : S 29 j = x) (hi : i.toInt = (j : Int)) (hj : j < 8192) (hf : zlk (zFt M) pc = some (p0, .baload, nx, lv, t)) (kk : Z X M f (zr X h m S) nx L (.int x :: st) Q) : Z X M f (zr X h m S) pc L (.int i :: .ref (m + 22) :: st) Q := r_ld29 j hi hj hf (by rw [e]; exact kk)
theorem r_v0 {x : Int32} {p0 idx nx t : Nat} {lv : Int32} {ref name desc : String} (e : S 0 0 = x) (hf : zlk (zFt M) pc = some (p0, .getfield idx, nx, lv, t)) (hr : zFR[t]? = some ((zNm M).cls, idx, ref, name, desc)) (hk : zfk 12 t = some 0) (kk : Z X M f (zr X h m S) nx L (.int x :: st) Q) : Z X M f (zr X h m S) pc L (.ref m :: st) Q := z_get zr_o hf hr hk rfl (by rw [e]; exact kk)
theorem zr_s0 {x : Int32} : zset (zr X h m S) m (zro (zV S 0 (fun _ => x)) m) = zr X h m (zV S 0 (fun _ => x)) := zr_put (j := 0) rfl rfl (by
    intro i hi hne
    match i, hi, hne with
    | 0, _, hne => exact absurd rfl hne
    | 1, _, _ => rfl
    | 2, _, _ => rfl
    | 3, _, _ => rfl
    | 4, _, _ => rfl
    | 5, _, _ => rfl
    | 6, _, _ => rfl
    | 7, _, _ => rfl
    | 8, _, _ => rfl
    | 9, _, _ => rfl
    | 10, _, _ => rfl
    | 11, _, _ => rfl
    | 12, _, _ => rfl
    | 13, _, _ => rfl
    | 14, _, _ => rfl
    | 15, _, _ => rfl
    | 16, _, _ => rfl
    | 17, _, _ => rfl
    | 18, _, _ => rfl
    | 19, _, _ => rfl
    | 20, _, _ => rfl
    | 21, _, _ => rfl
    | 22, _, _ => rfl
    | n + 23, hi, _ => omega)
theorem r_p0 {x : Int32} {p0 idx nx t : Nat} {lv : Int32} {ref name desc : String} (hf : zlk (zFt M) pc = some (p0, .putfield idx, nx, lv, t)) (hr : zFR[t]? = some ((zNm M).cls, idx, ref, name, desc)) (hk : zfk 12 t = some 0) (kk : Z X M f (zr X h m (zV S 0 (fun _ => x))) nx L st Q) : Z X M f (zr X h m S) pc L (.int x :: .ref m :: st) Q := z_put zr_o hf hr hk rfl rfl rfl (Nat.le_of_ble_eq_true rfl) (by rw [show (.inr (12, List.set _ 0 (Value.int x)) : va_E) = zro (zV S 0 (fun _ => x)) m from rfl, zr_s0]; exact kk)
theorem r_v1 {x : Int32} {p0 idx nx t : Nat} {lv : Int32} {ref name desc : String} (e : S 1 0 = x) (hf : zlk (zFt M) pc = some (p0, .getfield idx, nx, lv, t)) (hr : zFR[t]? = some ((zNm M).cls, idx, ref, name, desc)) (hk : zfk 12 t = some 1) (kk : Z X M f (zr X h m S) nx L (.int x :: st) Q) : Z X M f (zr X h m S) pc L (.ref m :: st) Q := z_get zr_o hf hr hk rfl (by rw [e]; exact kk)
theorem zr_s1 {x : Int32} : zset (zr X h m S) m (zro (zV S 1 (fun _ => x)) m) = zr X h m (zV S 1 (fun _ => x)) := zr_put (j := 0) rfl rfl (by
    intro i hi hne
    match i, hi, hne with
    | 0, _, hne => exact absurd rfl hne
    | 1, _, _ => rfl
    | 2, _, _ => rfl
    | 3, _, _ => rfl
    | 4, _, _ => rfl
    | 5, _, _ => rfl
    | 6, _, _ => rfl
    | 7, _, _ => rfl
    | 8, _, _ => rfl
    | 9, _, _ => rfl
    | 10, _, _ => rfl
    | 11, _, _ => rfl
    | 12, _, _ => rfl
    | 13, _, _ => rfl
    | 14, _, _ => rfl
    | 15, _, _ => rfl
    | 16, _, _ => rfl
    | 17, _, _ => rfl
    | 18, _, _ => rfl
    | 19, _, _ => rfl
    | 20, _, _ => rfl
    | 21, _, _ => rfl
    | 22, _, _ => rfl
    | n + 23, hi, _ => omega)
theorem r_v2 {x : Int32} {p0 idx nx t : Nat} {lv : Int32} {ref name desc : String} (e : S 2 0 = x) (hf : zlk (zFt M) pc = some (p0, .getfield idx, nx, lv, t)) (hr : zFR[t]? = some ((zNm M).cls, idx, ref, name, desc)) (hk : zfk 12 t = some 2) (kk : Z X M f (zr X h m S) nx L (.int x :: st) Q) : Z X M f (zr X h m S) pc L (.ref m :: st) Q := z_get zr_o hf hr hk rfl (by rw [e]; exact kk)
theorem zr_s2 {x : Int32} : zset (zr X h m S) m (zro (zV S 2 (fun _ => x)) m) = zr X h m (zV S 2 (fun _ => x)) := zr_put (j := 0) rfl rfl (by
    intro i hi hne
    match i, hi, hne with
    | 0, _, hne => exact absurd rfl hne
    | 1, _, _ => rfl
    | 2, _, _ => rfl
    | 3, _, _ => rfl
    | 4, _, _ => rfl
    | 5, _, _ => rfl
    | 6, _, _ => rfl
    | 7, _, _ => rfl
    | 8, _, _ => rfl
    | 9, _, _ => rfl
    | 10, _, _ => rfl
    | 11, _, _ => rfl
    | 12, _, _ => rfl
    | 13, _, _ => rfl
    | 14, _, _ => rfl
    | 15, _, _ => rfl
    | 16, _, _ => rfl
    | 17, _, _ => rfl
    | 18, _, _ => rfl
    | 19, _, _ => rfl
    | 20, _, _ => rfl
    | 21, _, _ => rfl
    | 22, _, _ => rfl
    | n + 23, hi, _ => omega)
theorem r_v7 {x : Int32} {p0 idx nx t : Nat} {lv : Int32} {ref name desc : String} (e : S 7 0 = x) (hf : zlk (zFt M) pc = some (p0, .getfield idx, nx, lv, t)) (hr : zFR[t]? = some ((zNm M).cls, idx, ref, name, desc)) (hk : zfk 12 t = some 7) (kk : Z X M f (zr X h m S) nx L (.int x :: st) Q) : Z X M f (zr X h m S) pc L (.ref m :: st) Q := z_get zr_o hf hr hk rfl (by rw [e]; exact kk)
theorem zr_s7 {x : Int32} : zset (zr X h m S) m (zro (zV S 7 (fun _ => x)) m) = zr X h m (zV S 7 (fun _ => x)) := zr_put (j := 0) rfl rfl (by
    intro i hi hne
    match i, hi, hne with
    | 0, _, hne => exact absurd rfl hne
    | 1, _, _ => rfl
    | 2, _, _ => rfl
    | 3, _, _ => rfl
    | 4, _, _ => rfl
    | 5, _, _ => rfl
    | 6, _, _ => rfl
    | 7, _, _ => rfl
    | 8, _, _ => rfl
    | 9, _, _ => rfl
    | 10, _, _ => rfl
    | 11, _, _ => rfl
    | 12, _, _ => rfl
    | 13, _, _ => rfl
    | 14, _, _ => rfl
    | 15, _, _ => rfl
    | 16, _, _ => rfl
    | 17, _, _ => rfl
    | 18, _, _ => rfl
    | 19, _, _ => rfl
    | 20, _, _ => rfl
    | 21, _, _ => rfl
    | 22, _, _ => rfl
    | n + 23, hi, _ => omega)
theorem r_p7 {x : Int32} {p0 idx nx t : Nat} {lv : Int32} {ref name desc : String} (hf : zlk (zFt M) pc = some (p0, .putfield idx, nx, lv, t)) (hr : zFR[t]? = some ((zNm M).cls, idx, ref, name, desc)) (hk : zfk 12 t = some 7) (kk : Z X M f (zr X h m (zV S 7 (fun _ => x))) nx L st Q) : Z X M f (zr X h m S) pc L (.int x :: .ref m :: st) Q := z_put zr_o hf hr hk rfl rfl rfl (Nat.le_of_ble_eq_true rfl) (by rw [show (.inr (12, List.set _ 7 (Value.int x)) : va_E) = zro (zV S 7 (fun _ => x)) m from rfl, zr_s7]; exact kk)
theorem r_v14 {x : Int32} {p0 idx nx t : Nat} {lv : Int32} {ref name desc : String} (e : S 14 0 = x) (hf : zlk (zFt M) pc = some (p0, .getfield idx, nx, lv, t)) (hr : zFR[t]? = some ((zNm M).cls, idx, ref, name, desc)) (hk : zfk 12 t = some 14) (kk : Z X M f (zr X h m S) nx L (.int x :: st) Q) : Z X M f (zr X h m S) pc L (.ref m :: st) Q := z_get zr_o hf hr hk rfl (by rw [e]; exact kk)
theorem zr_s14 {x : Int32} : zset (zr X h m S) m (zro (zV S 14 (fun _ => x)) m) = zr X h m (zV S 14 (fun _ => x)) := zr_put (j := 0) rfl rfl (by
    intro i hi hne
    match i, hi, hne with
    | 0, _, hne => exact absurd rfl hne
    | 1, _, _ => rfl
    | 2, _, _ => rfl
    | 3, _, _ => rfl
    | 4, _, _ => rfl
    | 5, _, _ => rfl
    | 6, _, _ => rfl
    | 7, _, _ => rfl
    | 8, _, _ => rfl
    | 9, _, _ => rfl
    | 10, _, _ => rfl
    | 11, _, _ => rfl
    | 12, _, _ => rfl
    | 13, _, _ => rfl
    | 14, _, _ => rfl
    | 15, _, _ => rfl
    | 16, _, _ => rfl
    | 17, _, _ => rfl
    | 18, _, _ => rfl
    | 19, _, _ => rfl
    | 20, _, _ => rfl
    | 21, _, _ => rfl
    | 22, _, _ => rfl
    | n + 23, hi, _ => omega)
theorem r_p14 {x : Int32} {p0 idx nx t : Nat} {lv : Int32} {ref name desc : String} (hf : zlk (zFt M) pc = some (p0, .putfield idx, nx, lv, t)) (hr : zFR[t]? = some ((zNm M).cls, idx, ref, name, desc)) (hk : zfk 12 t = some 14) (kk : Z X M f (zr X h m (zV S 14 (fun _ => x))) nx L st Q) : Z X M f (zr X h m S) pc L (.int x :: .ref m :: st) Q := z_put zr_o hf hr hk rfl rfl rfl (Nat.le_of_ble_eq_true rfl) (by rw [show (.inr (12, List.set _ 14 (Value.int x)) : va_E) = zro (zV S 14 (fun _ => x)) m from rfl, zr_s14]; exact kk)
theorem r_v23 {x : Int32} {p0 idx nx t : Nat} {lv : Int32} {ref name desc : String} (e : S 23 0 = x) (hf : zlk (zFt M) pc = some (p0, .getfield idx, nx, lv, t)) (hr : zFR[t]? = some ((zNm M).cls, idx, ref, name, desc)) (hk : zfk 12 t = some 23) (kk : Z X M f (zr X h m S) nx L (.int x :: st) Q) : Z X M f (zr X h m S) pc L (.ref m :: st) Q := z_get zr_o hf hr hk rfl (by rw [e]; exact kk)
theorem zr_s23 {x : Int32} : zset (zr X h m S) m (zro (zV S 23 (fun _ => x)) m) = zr X h m (zV S 23 (fun _ => x)) := zr_put (j := 0) rfl rfl (by
    intro i hi hne
    match i, hi, hne with
    | 0, _, hne => exact absurd rfl hne
    | 1, _, _ => rfl
    | 2, _, _ => rfl
    | 3, _, _ => rfl
    | 4, _, _ => rfl
    | 5, _, _ => rfl
    | 6, _, _ => rfl
    | 7, _, _ => rfl
    | 8, _, _ => rfl
    | 9, _, _ => rfl
    | 10, _, _ => rfl
    | 11, _, _ => rfl
    | 12, _, _ => rfl
    | 13, _, _ => rfl
    | 14, _, _ => rfl
    | 15, _, _ => rfl
    | 16, _, _ => rfl
    | 17, _, _ => rfl
    | 18, _, _ => rfl
    | 19, _, _ => rfl
    | 20, _, _ => rfl
    | 21, _, _ => rfl
    | 22, _, _ => rfl
    | n + 23, hi, _ => omega)
theorem r_p23 {x : Int32} {p0 idx nx t : Nat} {lv : Int32} {ref name desc : String} (hf : zlk (zFt M) pc = some (p0, .putfield idx, nx, lv, t)) (hr : zFR[t]? = some ((zNm M).cls, idx, ref, name, desc)) (hk : zfk 12 t = some 23) (kk : Z X M f (zr X h m (zV S 23 (fun _ => x))) nx L st Q) : Z X M f (zr X h m S) pc L (.int x :: .ref m :: st) Q := z_put zr_o hf hr hk rfl rfl rfl (Nat.le_of_ble_eq_true rfl) (by rw [show (.inr (12, List.set _ 23 (Value.int x)) : va_E) = zro (zV S 23 (fun _ => x)) m from rfl, zr_s23]; exact kk)
theorem r_v25 {x : Int32} {p0 idx nx t : Nat} {lv : Int32} {ref name desc : String} (e : S 25 0 = x) (hf : zlk (zFt M) pc = some (p0, .getfield idx, nx, lv, t)) (hr : zFR[t]? = some ((zNm M).cls, idx, ref, name, desc)) (hk : zfk 12 t = some 25) (kk : Z X M f (zr X h m S) nx L (.int x :: st) Q) : Z X M f (zr X h m S) pc L (.ref m :: st) Q := z_get zr_o hf hr hk rfl (by rw [e]; exact kk)
theorem zr_s25 {x : Int32} : zset (zr X h m S) m (zro (zV S 25 (fun _ => x)) m) = zr X h m (zV S 25 (fun _ => x)) := zr_put (j := 0) rfl rfl (by
    intro i hi hne
    match i, hi, hne with
    | 0, _, hne => exact absurd rfl hne
    | 1, _, _ => rfl
    | 2, _, _ => rfl
    | 3, _, _ => rfl
    | 4, _, _ => rfl
    | 5, _, _ => rfl
    | 6, _, _ => rfl
    | 7, _, _ => rfl
    | 8, _, _ => rfl
    | 9, _, _ => rfl
    | 10, _, _ => rfl
    | 11, _, _ => rfl
    | 12, _, _ => rfl
    | 13, _, _ => rfl
    | 14, _, _ => rfl
    | 15, _, _ => rfl
    | 16, _, _ => rfl
    | 17, _, _ => rfl
    | 18, _, _ => rfl
    | 19, _, _ => rfl
    | 20, _, _ => rfl
    | 21, _, _ => rfl
    | 22, _, _ => rfl
    | n + 23, hi, _ => omega)
theorem r_p25 {x : Int32} {p0 idx nx t : Nat} {lv : Int32} {ref name desc : String} (hf : zlk (zFt M) pc = some (p0, .putfield idx, nx, lv, t)) (hr : zFR[t]? = some ((zNm M).cls, idx, ref, name, desc)) (hk : zfk 12 t = some 25) (kk : Z X M f (zr X h m (zV S 25 (fun _ => x))) nx L st Q) : Z X M f (zr X h m S) pc L (.int x :: .ref m :: st) Q := z_put zr_o hf hr hk rfl rfl rfl (Nat.le_of_ble_eq_true rfl) (by rw [show (.inr (12, List.set _ 25 (Value.int x)) : va_E) = zro (zV S 25 (fun _ => x)) m from rfl, zr_s25]; exact kk)
theorem r_v27 {x : Int32} {p0 idx nx t : Nat} {lv : Int32} {ref name desc : String} (e : S 27 0 = x) (hf : zlk (zFt M) pc = some (p0, .getfield idx, nx, lv, t)) (hr : zFR[t]? = some ((zNm M).cls, idx, ref, name, desc)) (hk : zfk 12 t = some 27) (kk : Z X M f (zr X h m S) nx L (.int x :: st) Q) : Z X M f (zr X h m S) pc L (.ref m :: st) Q := z_get zr_o hf hr hk rfl (by rw [e]; exact kk)
theorem zr_s27 {x : Int32} : zset (zr X h m S) m (zro (zV S 27 (fun _ => x)) m) = zr X h m (zV S 27 (fun _ => x)) := zr_put (j := 0) rfl rfl (by
    intro i hi hne
    match i, hi, hne with
    | 0, _, hne => exact absurd rfl hne
    | 1, _, _ => rfl
    | 2, _, _ => rfl
    | 3, _, _ => rfl
    | 4, _, _ => rfl
    | 5, _, _ => rfl
    | 6, _, _ => rfl
    | 7, _, _ => rfl
    | 8, _, _ => rfl
    | 9, _, _ => rfl
    | 10, _, _ => rfl
    | 11, _, _ => rfl
    | 12, _, _ => rfl
    | 13, _, _ => rfl
    | 14, _, _ => rfl
    | 15, _, _ => rfl
    | 16, _, _ => rfl
    | 17, _, _ => rfl
    | 18, _, _ => rfl
    | 19, _, _ => rfl
    | 20, _, _ => rfl
    | 21, _, _ => rfl
    | 22, _, _ => rfl
    | n + 23, hi, _ => omega)
theorem r_p27 {x : Int32} {p0 idx nx t : Nat} {lv : Int32} {ref name desc : String} (hf : zlk (zFt M) pc = some (p0, .putfield idx, nx, lv, t)) (hr : zFR[t]? = some ((zNm M).cls, idx, ref, name, desc)) (hk : zfk 12 t = some 27) (kk : Z X M f (zr X h m (zV S 27 (fun _ => x))) nx L st Q) : Z X M f (zr X h m S) pc L (.int x :: .ref m :: st) Q := z_put zr_o hf hr hk rfl rfl rfl (Nat.le_of_ble_eq_true rfl) (by rw [show (.inr (12, List.set _ 27 (Value.int x)) : va_E) = zro (zV S 27 (fun _ => x)) m from rfl, zr_s27]; exact kk)
end ZRF
