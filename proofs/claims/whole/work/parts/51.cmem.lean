/-! the class: its memory -/
theorem and_hi {x k : Nat} (hx : x < 2147483648) (hk : k ≤ 32) : x &&& ((2 ^ (32 - k) - 1) <<< k) = x / 2 ^ k * 2 ^ k := by
  apply Nat.eq_of_testBit_eq
  intro i
  rw [Nat.testBit_and, Nat.testBit_shiftLeft, Nat.testBit_two_pow_sub_one, ← Nat.shiftLeft_eq, Nat.testBit_shiftLeft, ← Nat.shiftRight_eq_div_pow, Nat.testBit_shiftRight]
  by_cases c : k ≤ i
  · rw [show k + (i - k) = i by omega]
    by_cases d : i < 32
    · simp [c, show i - k < 32 - k by omega]
    · have : x.testBit i = false := Nat.testBit_lt_two_pow (Nat.lt_of_lt_of_le hx (Nat.le_trans (by decide : 2147483648 ≤ 2 ^ 32) (Nat.pow_le_pow_right (by decide) (by omega))))
      simp [this]
  · simp [c]
theorem i_toNat {n : Nat} (h : n < 2147483648) : (nI n).toBitVec.toNat = n := by
  have h1 := i_nI h
  have h2 : (nI n).toInt = (nI n).toBitVec.toInt := rfl
  rw [BitVec.toInt_eq_toNat_cond] at h2
  have := (nI n).toBitVec.isLt
  split at h2 <;> omega
theorem i_ofNat {x : Int32} {n : Nat} (h : x.toBitVec.toNat = n) (hn : n < 2147483648) : x = nI n := by
  apply i_ext
  have h2 : x.toInt = x.toBitVec.toInt := rfl
  rw [BitVec.toInt_eq_toNat_cond] at h2
  rw [i_nI hn]
  split at h2 <;> omega
theorem i_mask {a k : Nat} {y : Int32} (ha : a < 2147483648) (hk : k ≤ 32) (hy : y.toBitVec.toNat = (2 ^ (32 - k) - 1) <<< k) : nI a &&& y = nI (a / 2 ^ k * 2 ^ k) := by
  have hle : a / 2 ^ k * 2 ^ k ≤ a := Nat.div_mul_le_self a _
  refine i_ofNat ?_ (by omega)
  show ((nI a).toBitVec &&& y.toBitVec).toNat = _
  rw [BitVec.toNat_and, i_toNat ha, hy, and_hi ha hk]
/-- the memory's three cells -/
def zMem (X : zCx) (h : zHp) (xm xb xs N : Nat) (gB gS : Nat → Int32) : Prop := h.1 xm = some (.inr (7, [.int (nI N), .int (nI (N / 8)), .int (nI (N / 4)), .ref xb, .ref xs])) ∧ h.1 xb = some (zI X N gB) ∧ h.1 xs = some (zI X (N / 8) gS) ∧ 1024 ≤ N ∧ N ≤ 8192 ∧ N % 64 = 0 ∧ xb ≠ xs
section ZCM
variable {X : zCx} {h : zHp} {xm xb xs N : Nat} {gB gS : Nat → Int32}
theorem zMem_S (M : zMem X h xm xb xs N gB gS) (g : Nat → Int32) : zMem X (zset h xs (zI X (N / 8) g)) xm xb xs N gB g := by
  obtain ⟨m1, m2, m3, m4⟩ := M
  refine ⟨?_, ?_, zset_at _ _ _, m4⟩
  · rw [zset_ne _ _ (fun e => by rw [e, m3] at m1; cases m1)]; exact m1
  · rw [zset_ne _ _ m4.2.2.2]; exact m2
theorem zMem_B (M : zMem X h xm xb xs N gB gS) (g : Nat → Int32) : zMem X (zset h xb (zI X N g)) xm xb xs N g gS := by
  obtain ⟨m1, m2, m3, m4⟩ := M
  refine ⟨?_, zset_at _ _ _, ?_, m4⟩
  · rw [zset_ne _ _ (fun e => by rw [e, m2] at m1; cases m1)]; exact m1
  · rw [zset_ne _ _ (Ne.symm m4.2.2.2)]; exact m3
theorem z_alenI {M : zMI} {f : zFr} {pc : Nat} {L : zLo} {st : List Value} {Q : zRs → zHp → Prop} {a n : Nat} {g : Nat → Int32} {p0 nx t : Nat} {lv : Int32} (hh : h.1 a = some (zI X n g)) (hf : zlk (zFt M) pc = some (p0, .arraylength, nx, lv, t)) (kk : Z X M f h nx L (.int (nI n) :: st) Q) : Z X M f h pc L (.ref a :: st) Q := z_alen (k := 0) (by decide) hh hf kk
theorem c_up8 (G : zG X) (n : Nat) (hn : n ≤ 100000) : ZM X MX10_roundUp 0 100 [.int (nI n), .int 8] h (zX h (some (.int (nI ((n + 7) / 8 * 8))))) := by
  refine zm_of_z G KX10_roundUp rfl rfl ?_
  refine z_go 90 rfl ?_
  rw [show nI n + (8 : Int32) = nI (n + 8) from n_add n 8, show nI (n + 8) - (1 : Int32) = nI (n + 8 - 1) from n_sub (b := 1) (by omega) (by omega), i_mask (k := 3) (by omega) (by decide) rfl]
  exact z_iret rfl rfl ⟨rfl, by rw [show n + 8 - 1 = n + 7 by omega]⟩
theorem c_up16 (G : zG X) (n : Nat) (hn : n ≤ 100000) : ZM X MX10_roundUp 0 100 [.int (nI n), .int 16] h (zX h (some (.int (nI ((n + 15) / 16 * 16))))) := by
  refine zm_of_z G KX10_roundUp rfl rfl ?_
  refine z_go 90 rfl ?_
  rw [show nI n + (16 : Int32) = nI (n + 16) from n_add n 16, show nI (n + 16) - (1 : Int32) = nI (n + 16 - 1) from n_sub (b := 1) (by omega) (by omega), i_mask (k := 4) (by omega) (by decide) rfl]
  exact z_iret rfl rfl ⟨rfl, by rw [show n + 16 - 1 = n + 15 by omega]⟩
theorem c_up32 (G : zG X) (n : Nat) (hn : n ≤ 100000) : ZM X MX10_roundUp 0 100 [.int (nI n), .int 32] h (zX h (some (.int (nI ((n + 31) / 32 * 32))))) := by
  refine zm_of_z G KX10_roundUp rfl rfl ?_
  refine z_go 90 rfl ?_
  rw [show nI n + (32 : Int32) = nI (n + 32) from n_add n 32, show nI (n + 32) - (1 : Int32) = nI (n + 32 - 1) from n_sub (b := 1) (by omega) (by omega), i_mask (k := 5) (by omega) (by decide) rfl]
  exact z_iret rfl rfl ⟨rfl, by rw [show n + 32 - 1 = n + 31 by omega]⟩
theorem c_isAddr (G : zG X) (M : zMem X h xm xb xs N gB gS) (p : Int32) : ZM X MX6_isAddress 0 100 [.ref xm, .int p] h (zX h (some (.int (zif (0 ≤ p.toInt ∧ p.toInt < N) 1 0)))) := by
  obtain ⟨m1, m2, m3, m4, m5, m6, m7⟩ := M
  have t0 : (0 : Int32).toInt = 0 := rfl
  have tN := i_nI (n := N) (by omega)
  refine zm_of_z G KX6_isAddress rfl rfl ?_
  refine z_go 90 rfl ?_
  refine z_br rfl rfl (fun c => ?_) (fun c => ?_) <;> (try dsimp only at c)
  · rw [i_lt] at c
    refine z_go 90 rfl ?_
    exact z_zret rfl rfl rfl ⟨rfl, by rw [zif_neg (by omega)]⟩
  rw [i_lt] at c
  refine z_go 90 rfl ?_
  refine z_get m1 rfl rfl rfl rfl ?_
  refine z_br rfl rfl (fun d => ?_) (fun d => ?_) <;> (try dsimp only at d)
  · rw [i_le] at d
    refine z_go 90 rfl ?_
    exact z_zret rfl rfl rfl ⟨rfl, by rw [zif_neg (by omega)]⟩
  · rw [i_le] at d
    refine z_go 90 rfl ?_
    exact z_zret rfl rfl rfl ⟨rfl, by rw [zif_pos (by omega)]⟩
def sHolds (N : Nat) (p q : Int32) : Prop := q.toInt = 0 ∨ (0 < q.toInt ∧ q.toInt ≤ N ∧ 0 ≤ p.toInt ∧ p.toInt + q.toInt ≤ N)
theorem c_holds (G : zG X) (M : zMem X h xm xb xs N gB gS) (p q : Int32) : ZM X MX6_holds 0 100 [.ref xm, .int p, .int q] h (zX h (some (.int (zif (sHolds N p q) 1 0)))) := by
  obtain ⟨m1, m2, m3, m4, m5, m6, m7⟩ := M
  have t0 : (0 : Int32).toInt = 0 := rfl
  have tN := i_nI (n := N) (by omega)
  refine zm_of_z G KX6_holds rfl rfl ?_
  refine z_go 90 rfl ?_
  refine z_br rfl rfl (fun c => ?_) (fun c => ?_) <;> (try dsimp only at c)
  · rw [i_eq] at c
    refine z_go 90 rfl ?_
    exact z_zret rfl rfl rfl ⟨rfl, by rw [zif_pos (p := sHolds N p q) (Or.inl (by omega))]⟩
  rw [i_eq] at c
  refine z_go 90 rfl ?_
  refine z_br rfl rfl (fun d => ?_) (fun d => ?_) <;> (try dsimp only at d)
  · rw [i_le] at d
    refine z_go 90 rfl ?_
    exact z_zret rfl rfl rfl ⟨rfl, by rw [zif_neg (p := sHolds N p q) (by unfold sHolds; omega)]⟩
  rw [i_le] at d
  refine z_go 90 rfl ?_
  refine z_get m1 rfl rfl rfl rfl ?_
  refine z_go 90 rfl ?_
  refine z_br rfl rfl (fun e => ?_) (fun e => ?_) <;> (try dsimp only at e)
  · rw [i_lt] at e
    refine z_go 90 rfl ?_
    exact z_zret rfl rfl rfl ⟨rfl, by rw [zif_neg (p := sHolds N p q) (by unfold sHolds; omega)]⟩
  rw [i_lt] at e
  refine z_go 90 rfl ?_
  refine z_br rfl rfl (fun k => ?_) (fun k => ?_) <;> (try dsimp only at k)
  · rw [i_lt] at k
    refine z_go 90 rfl ?_
    exact z_zret rfl rfl rfl ⟨rfl, by rw [zif_neg (p := sHolds N p q) (by unfold sHolds; omega)]⟩
  rw [i_lt] at k
  refine z_go 90 rfl ?_
  refine z_get m1 rfl rfl rfl rfl ?_
  refine z_go 90 rfl ?_
  have ts : (nI N - q).toInt = N - q.toInt := by rw [i_sub] <;> omega
  refine z_br rfl rfl (fun u => ?_) (fun u => ?_) <;> (try dsimp only at u)
  · rw [i_lt] at u
    refine z_go 90 rfl ?_
    exact z_zret rfl rfl rfl ⟨rfl, by rw [zif_neg (p := sHolds N p q) (by unfold sHolds; omega)]⟩
  · rw [i_lt] at u
    refine z_go 90 rfl ?_
    exact z_zret rfl rfl rfl ⟨rfl, by rw [zif_pos (p := sHolds N p q) (by unfold sHolds; omega)]⟩
theorem c_granules (G : zG X) (M : zMem X h xm xb xs N gB gS) : ZM X MX6_granules 0 100 [.ref xm] h (zX h (some (.int (nI (N / 8))))) := by
  obtain ⟨m1, m2, m3, m4, m5, m6, m7⟩ := M
  refine zm_of_z G KX6_granules rfl rfl ?_
  refine z_go 90 rfl ?_
  refine z_get m1 rfl rfl rfl rfl ?_
  refine z_alenI m3 rfl ?_
  exact z_iret rfl rfl ⟨rfl, rfl⟩
theorem c_shadowOf (G : zG X) (M : zMem X h xm xb xs N gB gS) (p : Int32) : ZM X MX6_shadowOf 0 100 [.ref xm, .int p] h (zX h (some (.int (zif (0 ≤ p.toInt ∧ p.toInt < (N / 8 : Nat)) (gS p.toInt.toNat) 0)))) := by
  obtain ⟨m1, m2, m3, m4, m5, m6, m7⟩ := M
  have t0 : (0 : Int32).toInt = 0 := rfl
  have tN := i_nI (n := N / 8) (by omega)
  refine zm_of_z G KX6_shadowOf rfl rfl ?_
  refine z_go 90 rfl ?_
  refine z_br rfl rfl (fun c => ?_) (fun c => ?_) <;> (try dsimp only at c)
  · rw [i_lt] at c
    refine z_go 90 rfl ?_
    exact z_iret rfl rfl ⟨rfl, by rw [zif_neg (by omega)]⟩
  rw [i_lt] at c
  refine z_go 90 rfl ?_
  refine z_get m1 rfl rfl rfl rfl ?_
  refine z_alenI m3 rfl ?_
  refine z_br rfl rfl (fun d => ?_) (fun d => ?_) <;> (try dsimp only at d)
  · rw [i_le] at d
    refine z_go 90 rfl ?_
    exact z_iret rfl rfl ⟨rfl, by rw [zif_neg (by omega)]⟩
  · rw [i_le] at d
    refine z_go 90 rfl ?_
    refine z_get m1 rfl rfl rfl rfl ?_
    refine z_go 90 rfl ?_
    refine z_iald p.toInt.toNat m3 rfl (by omega) (by omega) ?_
    refine z_go 90 rfl ?_
    exact z_iret rfl rfl ⟨rfl, by rw [zif_pos (by omega)]⟩
theorem c_byteAt (G : zG X) (M : zMem X h xm xb xs N gB gS) (p : Int32) : ZM X MX6_byteAt 0 100 [.ref xm, .int p] h (zX h (some (.int (zif (0 ≤ p.toInt ∧ p.toInt < N) (gB p.toInt.toNat) 0)))) := by
  obtain ⟨m1, m2, m3, m4, m5, m6, m7⟩ := M
  have t0 : (0 : Int32).toInt = 0 := rfl
  have tN := i_nI (n := N) (by omega)
  refine zm_of_z G KX6_byteAt rfl rfl ?_
  refine z_go 90 rfl ?_
  refine z_br rfl rfl (fun c => ?_) (fun c => ?_) <;> (try dsimp only at c)
  · rw [i_lt] at c
    refine z_go 90 rfl ?_
    exact z_iret rfl rfl ⟨rfl, by rw [zif_neg (by omega)]⟩
  rw [i_lt] at c
  refine z_go 90 rfl ?_
  refine z_get m1 rfl rfl rfl rfl ?_
  refine z_alenI m2 rfl ?_
  refine z_br rfl rfl (fun d => ?_) (fun d => ?_) <;> (try dsimp only at d)
  · rw [i_le] at d
    refine z_go 90 rfl ?_
    exact z_iret rfl rfl ⟨rfl, by rw [zif_neg (by omega)]⟩
  · rw [i_le] at d
    refine z_go 90 rfl ?_
    refine z_get m1 rfl rfl rfl rfl ?_
    refine z_go 90 rfl ?_
    refine z_iald p.toInt.toNat m2 rfl (by omega) (by omega) ?_
    refine z_go 90 rfl ?_
    exact z_iret rfl rfl ⟨rfl, by rw [zif_pos (by omega)]⟩
def gPaint (g : Nat → Int32) (a b : Nat) (v : Int32) : Nat → Int32 := fun k => if a / 8 ≤ k ∧ k < (b + 7) / 8 then v else g k
theorem c_paint (G : zG X) (M : zMem X h xm xb xs N gB gS) (a n : Nat) (v : Int32) (hn : a + n ≤ N) : ZM X MX6_paint 1 127 [.ref xm, .int (nI a), .int (nI n), .int v] h (zX (zset h xs (zI X (N / 8) (gPaint gS a (a + n) v))) none) := by
  obtain ⟨m1, m2, m3, m4, m5, m6, m7⟩ := id M
  refine zm_of_z G KX6_paint rfl rfl ?_
  refine z_go 90 rfl ?_
  refine z_get m1 rfl rfl rfl rfl ?_
  refine z_alenI m3 rfl ?_
  refine z_go 90 rfl ?_
  rw [n_add]
  refine z_cN (c_up8 G (a + n) (by omega)) KX10_roundUp SX10_roundUp rfl rfl PX10_roundUp rfl rfl rfl rfl ?_
  refine z_go 90 rfl ?_
  refine z_div rfl (by decide) ?_
  refine z_go 90 rfl ?_
  rw [show nI ((a + n + 7) / 8 * 8) / (8 : Int32) = nI ((a + n + 7) / 8 * 8 / 8) from n_div (b := 8) (by omega) (by omega) (by omega), show (a + n + 7) / 8 * 8 / 8 = (a + n + 7) / 8 by omega]
  refine z_cS (c_min G _ _) KJ9_min_7cf53 SJ9_min_7cf53 rfl rfl PJ9_min_7cf53 rfl rfl rfl rfl ?_
  have emin : (if nI ((a + n + 7) / 8) < nI (N / 8) then nI ((a + n + 7) / 8) else nI (N / 8)) = nI ((a + n + 7) / 8) := by
    by_cases c : nI ((a + n + 7) / 8) < nI (N / 8)
    · rw [if_pos c]
    · rw [if_neg c]
      rw [n_lt (by omega) (by omega)] at c
      exact congrArg nI (by omega)
  rw [emin]
  refine z_go 90 rfl ?_
  refine z_div rfl (by decide) ?_
  refine z_go 90 rfl ?_
  rw [show nI a / (8 : Int32) = nI (a / 8) from n_div (b := 8) (by omega) (by omega) (by omega)]
  refine z_cS (c_max G _ _) KJ9_max_7cf53 SJ9_max_7cf53 rfl rfl PJ9_max_7cf53 rfl rfl rfl rfl ?_
  have emax : (if (0 : Int32) < nI (a / 8) then nI (a / 8) else 0) = nI (a / 8) := by
    rw [show (0 : Int32) = nI 0 from rfl]
    by_cases c : nI 0 < nI (a / 8)
    · rw [if_pos c]
    · rw [if_neg c]
      rw [n_lt (by omega) (by omega)] at c
      exact congrArg nI (by omega)
  rw [emax]
  refine z_go 90 rfl ?_
  have H := zdown (P := fun k => a / 8 ≤ k → Z X MX6_paint (1, 127, h.2.1, h.2.2) (zset h xs (zI X (N / 8) (fun g => if a / 8 ≤ g ∧ g < k then v else gS g))) 35 [some (.ref xm), some (.int (nI a)), some (.int (nI n)), some (.int v), some (.int (nI ((a + n + 7) / 8))), some (.int (nI k))] [.int (nI ((a + n + 7) / 8)), .int (nI k)] (zX (zset h xs (zI X (N / 8) (gPaint gS a (a + n) v))) none)) ((a + n + 7) / 8) (fun k hk ih hak => ?_) (a / 8) (by omega) (Nat.le_refl _)
  · refine z_cong ?_ rfl rfl H
    rw [show (fun g => if a / 8 ≤ g ∧ g < a / 8 then v else gS g) = gS from funext fun g => if_neg (by omega)]
    exact (zset_same m3).symm
  refine z_br rfl rfl (fun c => ?_) (fun c => ?_) <;> (try dsimp only at c)
  · rw [n_le (by omega) (by omega)] at c
    have : k = (a + n + 7) / 8 := by omega
    subst this
    exact z_vret rfl rfl ⟨rfl, rfl⟩
  rw [n_le (by omega) (by omega)] at c
  refine z_go 90 rfl ?_
  refine z_get (zMem_S M _).1 rfl rfl rfl rfl ?_
  refine z_go 90 rfl ?_
  refine z_iast k (zset_at _ _ _) rfl (i_nI (by omega)) (by omega) ?_
  refine z_go 90 rfl ?_
  rw [zset_set, show nI k + (1 : Int32) = nI (k + 1) from n_succ k]
  refine z_cong ?_ rfl rfl (ih (by omega) (by omega))
  refine congrArg (fun z => zset h xs (zI X (N / 8) z)) (funext fun g => ?_)
  show (if g = k then v else if a / 8 ≤ g ∧ g < k then v else gS g) = if a / 8 ≤ g ∧ g < k + 1 then v else gS g
  by_cases c1 : g = k
  · rw [if_pos c1, if_pos (by omega)]
  · by_cases c2 : a / 8 ≤ g ∧ g < k
    · rw [if_neg c1, if_pos c2, if_pos (by omega)]
    · rw [if_neg c1, if_neg c2, if_neg (by omega)]
def gOpen (g : Nat → Int32) (a n : Nat) : Nat → Int32 := fun k => if a / 8 ≤ k ∧ 8 * k < a + n then (if 8 * k + 8 ≤ a + n then 0 else nI (a + n - 8 * k)) else g k
theorem c_open (G : zG X) (M : zMem X h xm xb xs N gB gS) (a n : Nat) (hn : a + n ≤ N) (ha : a % 8 = 0) : ZM X MX6_open 2 154 [.ref xm, .int (nI a), .int (nI n)] h (zX (zset h xs (zI X (N / 8) (gOpen gS a n))) none) := by
  obtain ⟨m1, m2, m3, m4, m5, m6, m7⟩ := id M
  refine zm_of_z G KX6_open rfl rfl ?_
  refine z_go 90 rfl ?_
  refine z_cV m1 (c_paint G M a n 0 hn) KX6_paint IX6_paint VX6_paint rfl rfl rfl PX6_paint rfl rfl rfl rfl ?_
  refine z_go 90 rfl ?_
  refine z_rem rfl (by decide) ?_
  refine z_go 90 rfl ?_
  rw [show nI n - nI n / (8 : Int32) * (8 : Int32) = nI (n % 8) from n_rem (b := 8) (by omega) (by omega) (by omega)]
  refine z_br rfl rfl (fun c => ?_) (fun c => ?_) <;> (try dsimp only at c)
  · rw [show (0 : Int32) = nI 0 from rfl, n_eq (by omega) (by omega)] at c
    refine z_vret rfl rfl ⟨?_, rfl⟩
    refine congrArg (fun z => zset h xs (zI X (N / 8) z)) (funext fun k => ?_)
    unfold gPaint gOpen
    by_cases d : a / 8 ≤ k ∧ 8 * k < a + n
    · rw [if_pos (by omega), if_pos d, if_pos (by omega)]
    · rw [if_neg (by omega), if_neg d]
  rw [show (0 : Int32) = nI 0 from rfl, n_eq (by omega) (by omega)] at c
  refine z_go 90 rfl ?_
  rw [n_add, n_sub (by omega) (by omega)]
  refine z_cV (zMem_S M _).1 (c_paint G (zMem_S M _) (a + n - n % 8) (n % 8) (nI (n % 8)) (by omega)) KX6_paint IX6_paint VX6_paint rfl rfl rfl PX6_paint rfl rfl rfl rfl ?_
  rw [zset_set]
  refine z_vret rfl rfl ⟨?_, rfl⟩
  refine congrArg (fun z => zset h xs (zI X (N / 8) z)) (funext fun k => ?_)
  unfold gPaint gOpen
  by_cases d : a / 8 ≤ k ∧ 8 * k < a + n
  · rw [if_pos d]
    by_cases e : 8 * k + 8 ≤ a + n
    · rw [if_pos e, if_neg (by omega), if_pos (by omega)]
    · rw [if_neg e, if_pos (by omega)]
      exact congrArg nI (by omega)
  · rw [if_neg d, if_neg (by omega), if_neg (by omega)]
end ZCM
