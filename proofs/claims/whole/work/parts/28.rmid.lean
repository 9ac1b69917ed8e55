/-- the fields of the reference that hold numbers of 0 to 9999 -/
def sNat (k : Nat) : Bool := !(Nat.beq k 3 || Nat.beq k 21 || Nat.beq k 22 || Nat.beq k 26 || Nat.beq k 29)
def sI0 (S : zS) : Prop := ∀ k i, sNat k = true → 0 ≤ (S k i).toInt ∧ (S k i).toInt < 10000
def sN (S : zS) (k i : Nat) : Nat := (S k i).toInt.toNat
theorem sN_eq {S : zS} (I : sI0 S) {k i : Nat} (hk : sNat k = true) : S k i = nI (sN S k i) := by
  have := I k i hk
  unfold sN
  apply i_ext
  rw [i_nI (by omega)]
  omega
theorem sN_lt {S : zS} (I : sI0 S) {k i : Nat} (hk : sNat k = true) : sN S k i < 10000 := by
  have := I k i hk
  unfold sN
  omega
theorem sN_of {S : zS} {k i n : Nat} (e : S k i = nI n) (hn : n < 2147483648) : sN S k i = n := by
  unfold sN
  rw [e, i_nI hn]
  rfl
theorem sI0_V {S : zS} (I : sI0 S) {k : Nat} {g : Nat → Int32} (hg : sNat k = true → ∀ i, 0 ≤ (g i).toInt ∧ (g i).toInt < 10000) : sI0 (zV S k g) := by
  intro j i hj
  by_cases c : j = k
  · subst c; rw [zV_at]; exact hg hj i
  · rw [zV_ne _ _ c]; exact I j i hj
theorem sI0_u {S : zS} (I : sI0 S) {k j : Nat} {x : Int32} (hx : sNat k = true → 0 ≤ x.toInt ∧ x.toInt < 10000) : sI0 (zV S k (upd (S k) j x)) := by
  refine sI0_V I fun hk i => ?_
  unfold upd
  split
  · exact hx hk
  · exact I k i hk
section ZRM
variable {X : zCx} {h : zHp} {m : Nat} {S : zS}
theorem rc_opens (G : zG X) (a n : Nat) (ha : a % 8 = 0) (hb : a + n ≤ 8192) : ZM X MX11_opens 0 100 [.ref m, .int (nI a), .int (nI n)] (zr X h m S) (zX (zr X h m (sOpen S a n)) none) := by
  refine zm_of_z G KX11_opens rfl rfl ?_
  refine z_go 90 rfl ?_
  refine z_eqS (S' := zV S 4 (fun g => if a / 8 ≤ g ∧ g < a / 8 + 0 then (if 8 * g + 8 ≤ a + n then 0 else nI (a + n - 8 * g)) else S 4 g)) ?_ ?_
  · rw [show (fun g => if a / 8 ≤ g ∧ g < a / 8 + 0 then (if 8 * g + 8 ≤ a + n then 0 else nI (a + n - 8 * g)) else S 4 g) = S 4 from funext fun g => if_neg (by omega), zV_same]
  refine zdown (P := fun k => Z X MX11_opens _ (zr X h m (zV S 4 (fun g => if a / 8 ≤ g ∧ g < a / 8 + k then (if 8 * g + 8 ≤ a + n then 0 else nI (a + n - 8 * g)) else S 4 g))) _ [_, _, _, some (Value.int (nI (8 * k)))] [.int (nI n), .int (nI (8 * k))] _) ((n + 7) / 8) (fun k hk ih => ?_) 0 (Nat.zero_le _)
  refine z_br rfl rfl (fun c => ?_) (fun c => ?_) <;> (try dsimp only at c)
  · rw [n_le (by omega) (by omega)] at c
    refine z_vret rfl rfl ⟨?_, rfl⟩
    unfold sOpen
    refine congrArg (fun z => zr X h m (zV S 4 z)) (funext fun g => ?_)
    by_cases c2 : a / 8 ≤ g ∧ 8 * g < a + n
    · rw [if_pos c2, if_pos (by omega)]
    · rw [if_neg c2, if_neg (by omega)]
  · rw [n_le (by omega) (by omega)] at c
    refine z_go 90 rfl ?_
    refine z_get zr_o rfl rfl rfl rfl ?_
    refine z_go 90 rfl ?_
    rw [n_add]
    refine z_div rfl (by decide) ?_
    refine z_go 90 rfl ?_
    rw [show nI (a + 8 * k) / (8 : Int32) = nI ((a + 8 * k) / 8) from n_div (b := 8) (by omega) (by omega) (by omega)]
    rw [n_sub (show 8 * k ≤ n by omega) (by omega)]
    have hlt : k < (n + 7) / 8 := by omega
    have ix : (a + 8 * k) / 8 = a / 8 + k := by omega
    have step : ∀ v : Int32, v = (if 8 * (a / 8 + k) + 8 ≤ a + n then 0 else nI (a + n - 8 * (a / 8 + k))) → zV (zV S 4 (fun g => if a / 8 ≤ g ∧ g < a / 8 + k then (if 8 * g + 8 ≤ a + n then 0 else nI (a + n - 8 * g)) else S 4 g)) 4 (upd (fun g => if a / 8 ≤ g ∧ g < a / 8 + k then (if 8 * g + 8 ≤ a + n then 0 else nI (a + n - 8 * g)) else S 4 g) ((a + 8 * k) / 8) v) = zV S 4 (fun g => if a / 8 ≤ g ∧ g < a / 8 + (k + 1) then (if 8 * g + 8 ≤ a + n then 0 else nI (a + n - 8 * g)) else S 4 g) := by
      intro v hv
      rw [zV_V, ix]
      refine congrArg (zV S 4) (funext fun g => ?_)
      dsimp only [upd]
      by_cases c1 : g = a / 8 + k
      · rw [if_pos c1, if_pos (by omega), hv, c1]
      · rw [if_neg c1]
        by_cases c2 : a / 8 ≤ g ∧ g < a / 8 + k
        · rw [if_pos c2, if_pos (show a / 8 ≤ g ∧ g < a / 8 + (k + 1) by omega)]
        · rw [if_neg c2, if_neg (show ¬ (a / 8 ≤ g ∧ g < a / 8 + (k + 1)) by omega)]
    have e9 : nI (8 * k) + 8 = nI (8 * (k + 1)) := n_add (8 * k) 8
    refine z_br rfl rfl (fun d => ?_) (fun d => ?_) <;> (try dsimp only at d)
    · rw [show (8 : Int32) = nI 8 from rfl, n_lt (by omega) (by omega)] at d
      refine z_go 90 rfl ?_
      rw [n_sub (show 8 * k ≤ n by omega) (by omega)]
      refine r_st4 ((a + 8 * k) / 8) (i_nI (by omega)) (by omega) rfl ?_
      refine z_go 90 rfl ?_
      refine z_cong (congrArg (zr X h m) (step _ (by rw [if_neg (by omega)]; exact congrArg nI (by omega)))) (congrArg (fun x => [_, _, _, some (Value.int x)]) e9) (congrArg (fun x => [_, Value.int x]) e9) (ih hlt)
    · rw [show (8 : Int32) = nI 8 from rfl, n_lt (by omega) (by omega)] at d
      refine z_go 90 rfl ?_
      refine r_st4 ((a + 8 * k) / 8) (i_nI (by omega)) (by omega) rfl ?_
      refine z_go 90 rfl ?_
      refine z_cong (congrArg (zr X h m) (step _ (by rw [if_pos (by omega)]))) (congrArg (fun x => [_, _, _, some (Value.int x)]) e9) (congrArg (fun x => [_, Value.int x]) e9) (ih hlt)
/-- global -/
def sGat (S : zS) : Nat := if sN S 7 0 = 0 then 0 else (sN S 5 (sN S 7 0 - 1) + sN S 6 (sN S 7 0 - 1) + 32 + 31) / 32 * 32
def sGlob (S : zS) (n : Nat) : zS := sOpen (zV (zV (zV S 5 (upd (S 5) (sN S 7 0) (nI (sGat S)))) 7 (fun _ => nI (sN S 7 0 + 1))) 6 (upd (S 6) (sN S 7 0) (nI n))) (sGat S) n
def sGlobB (S : zS) (n : Nat) : Int32 × zS := if sGat S + n + 32 ≤ sN S 1 0 / 8 then (nI (sGat S), sGlob S n) else (-1, S)
def sThrow (S : zS) (w : Int32) : zS := zV S 0 (fun _ => w)
theorem rc_global1 (G : zG X) (n : Nat) (I : sI0 S) (h1 : 1 ≤ n) (h2 : n ≤ 512) (hN : sN S 1 0 ≤ 8192) (hg : sN S 7 0 < 40) : Z X MX11_global (1, 127, h.2.1, h.2.2) (zr X h m S) 28 [some (.ref m), some (.int (nI n)), some (.int (nI 0))] [] (zX (zr X h m (sGlobB S n).2) (some (.int (sGlobB S n).1))) := by
  have e7 : S 7 0 = nI (sN S 7 0) := sN_eq I rfl
  have e1 : S 1 0 = nI (sN S 1 0) := sN_eq I rfl
  have hb1 : sN S 5 (sN S 7 0 - 1) < 10000 := sN_lt I rfl
  have hb2 : sN S 6 (sN S 7 0 - 1) < 10000 := sN_lt I rfl
  have hat : sGat S < 30000 := by unfold sGat; split <;> omega
  have H : ∀ x : Int32, x = nI (sGat S) → Z X MX11_global (1, 127, h.2.1, h.2.2) (zr X h m S) 78 [some (.ref m), some (.int (nI n)), some (.int x)] [.ref m, .int (x + nI n + 32)] (zX (zr X h m (sGlobB S n).2) (some (.int (sGlobB S n).1))) := by
    rintro x rfl
    rw [n_add, show nI (sGat S + n) + (32 : Int32) = nI (sGat S + n + 32) from n_add _ 32]
    refine r_v1 e1 rfl rfl rfl ?_
    refine z_go 90 rfl ?_
    refine z_div rfl (by decide) ?_
    refine z_go 90 rfl ?_
    rw [show nI (sN S 1 0) / (8 : Int32) = nI (sN S 1 0 / 8) from n_div (b := 8) (by omega) (by omega) (by omega)]
    refine z_br rfl rfl (fun c => ?_) (fun c => ?_) <;> (try dsimp only at c)
    · rw [n_le (by omega) (by omega)] at c
      refine z_go 90 rfl ?_
      refine z_get zr_o rfl rfl rfl rfl ?_
      refine z_go 90 rfl ?_
      refine r_v7 e7 rfl rfl rfl ?_
      refine z_go 90 rfl ?_
      refine r_st5 (sN S 7 0) (i_nI (by omega)) hg rfl ?_
      refine z_go 90 rfl ?_
      refine z_get zr_o rfl rfl rfl rfl ?_
      refine z_go 90 rfl ?_
      refine r_v7 e7 rfl rfl rfl ?_
      refine z_go 90 rfl ?_
      refine r_p7 rfl rfl rfl ?_
      refine z_go 90 rfl ?_
      refine r_st6 (sN S 7 0) (i_nI (by omega)) hg rfl ?_
      refine z_go 90 rfl ?_
      rw [show nI (sN S 7 0) + (1 : Int32) = nI (sN S 7 0 + 1) from n_add _ 1]
      refine z_cV zr_o (rc_opens G (sGat S) n (by unfold sGat; split <;> omega) (by omega)) KX11_opens IX11_opens VX11_opens rfl rfl rfl PX11_opens rfl rfl rfl rfl ?_
      refine z_go 90 rfl ?_
      refine z_iret rfl rfl ?_
      unfold sGlobB
      rw [if_pos c]
      exact ⟨rfl, rfl⟩
    · rw [n_le (by omega) (by omega)] at c
      refine z_go 90 rfl ?_
      refine z_iret rfl rfl ?_
      unfold sGlobB
      rw [if_neg c]
      exact ⟨rfl, rfl⟩
  refine z_go 90 rfl ?_
  refine r_v7 e7 rfl rfl rfl ?_
  refine z_go 90 rfl ?_
  refine z_br rfl rfl (fun c => ?_) (fun c => ?_) <;> (try dsimp only at c)
  · rw [show (0 : Int32) = nI 0 from rfl, n_le (by omega) (by omega)] at c
    refine z_go 90 rfl ?_
    exact H _ (congrArg nI (show 0 = sGat S by unfold sGat; rw [if_pos (by omega)]))
  · rw [show (0 : Int32) = nI 0 from rfl, n_le (by omega) (by omega)] at c
    refine z_go 90 rfl ?_
    refine z_get zr_o rfl rfl rfl rfl ?_
    refine z_go 90 rfl ?_
    refine r_v7 e7 rfl rfl rfl ?_
    refine z_go 90 rfl ?_
    rw [show nI (sN S 7 0) - (1 : Int32) = nI (sN S 7 0 - 1) from n_sub (b := 1) (by omega) (by omega)]
    refine r_lv5 (sN S 7 0 - 1) (sN_eq I rfl) (i_nI (by omega)) (by omega) rfl ?_
    refine z_go 90 rfl ?_
    refine z_get zr_o rfl rfl rfl rfl ?_
    refine z_go 90 rfl ?_
    refine r_v7 e7 rfl rfl rfl ?_
    refine z_go 90 rfl ?_
    rw [show nI (sN S 7 0) - (1 : Int32) = nI (sN S 7 0 - 1) from n_sub (b := 1) (by omega) (by omega)]
    refine r_lv6 (sN S 7 0 - 1) (sN_eq I rfl) (i_nI (by omega)) (by omega) rfl ?_
    refine z_go 90 rfl ?_
    refine z_div rfl (by decide) ?_
    refine z_go 90 rfl ?_
    have e : (nI (sN S 5 (sN S 7 0 - 1)) + nI (sN S 6 (sN S 7 0 - 1)) + nI 32 + nI 31) / nI 32 * nI 32 = nI (sGat S) := by
      rw [n_add, n_add, n_add, n_div (by omega) (by omega) (by omega), n_mul]
      exact congrArg nI (by unfold sGat; rw [if_neg (by omega)])
    exact H _ e
def sGlobal (S : zS) (p : Int32) : Int32 × zS := if 1 ≤ p.toInt ∧ p.toInt ≤ 512 then sGlobB (sThrow S 0) p.toInt.toNat else (0, sThrow S 1)
theorem sI0_T {S : zS} (I : sI0 S) (w : Int32) (hw : 0 ≤ w.toInt ∧ w.toInt < 10000) : sI0 (sThrow S w) := sI0_V I (fun _ _ => hw)
/-- refuses(why), and the road behind it -/
theorem rr_no {M : zMI} {f : zFr} {L : zLo} {Q : zRs → zHp → Prop} {pc p0 idx nx t p1 nx1 t1 : Nat} {lv lv1 : Int32} {o : Int} (G : zG X) (hf : zlk (zFt M) pc = some (p0, .invokevirtual idx, nx, lv, t)) (hr : zML[t]? = some ((zNm M).cls, idx, yX11_refuses)) (hfr : Nat.ble 1 f.1 = true) (hlc : Nat.ble 121 f.2.1 = true) (hf1 : zlk (zFt M) nx = some (p1, .ifCond .eq o, nx1, lv1, t1)) (kk : Z X M f (zr X h m (sThrow S 0)) t1 L [] Q) : Z X M f (zr X h m S) pc L [.int 0, .ref m] Q := by
  refine z_cV zr_o (rc_refuses G 0) KX11_refuses IX11_refuses VX11_refuses rfl hf hr PX11_refuses hfr hlc rfl rfl ?_
  refine z_br hf1 rfl (fun c => kk) (fun c => ?_)
  exact absurd rfl c
theorem rr_yes {M : zMI} {f : zFr} {L : zLo} {Q : zRs → zHp → Prop} {pc p0 idx nx t p1 nx1 t1 : Nat} {lv lv1 w : Int32} {o : Int} (G : zG X) (hw : w ≠ 0) (hf : zlk (zFt M) pc = some (p0, .invokevirtual idx, nx, lv, t)) (hr : zML[t]? = some ((zNm M).cls, idx, yX11_refuses)) (hfr : Nat.ble 1 f.1 = true) (hlc : Nat.ble 121 f.2.1 = true) (hf1 : zlk (zFt M) nx = some (p1, .ifCond .eq o, nx1, lv1, t1)) (kk : Z X M f (zr X h m (sThrow S w)) nx1 L [] Q) : Z X M f (zr X h m S) pc L [.int w, .ref m] Q := by
  refine z_cV zr_o (rc_refuses G w) KX11_refuses IX11_refuses VX11_refuses rfl hf hr PX11_refuses hfr hlc rfl rfl ?_
  refine z_br hf1 rfl (fun c => ?_) (fun c => kk)
  rw [if_neg hw] at c
  exact absurd c (by decide)
theorem rc_global (G : zG X) (p : Int32) (I : sI0 S) (hN : sN S 1 0 ≤ 8192) (hg : sN S 7 0 < 40) : ZM X MX11_global 1 127 [.ref m, .int p] (zr X h m S) (zX (zr X h m (sGlobal S p).2) (some (.int (sGlobal S p).1))) := by
  have q1 : (1 : Int32).toInt = 1 := rfl
  have q2 : (512 : Int32).toInt = 512 := rfl
  refine zm_of_z G KX11_global rfl rfl ?_
  refine z_go 90 rfl ?_
  have bad : ¬ (1 ≤ p.toInt ∧ p.toInt ≤ 512) → Z X MX11_global (1, 127, h.2.1, h.2.2) (zr X h m S) 18 [some (.ref m), some (.int p), none] [.int 1, .ref m] (zX (zr X h m (sGlobal S p).2) (some (.int (sGlobal S p).1))) := by
    intro hb
    refine rr_yes G (by decide) rfl rfl rfl rfl rfl ?_
    refine z_go 90 rfl ?_
    refine z_iret rfl rfl ?_
    unfold sGlobal
    rw [if_neg hb]
    exact ⟨rfl, rfl⟩
  refine z_br rfl rfl (fun c => ?_) (fun c => ?_) <;> (try dsimp only at c)
  · rw [i_lt] at c
    refine z_go 90 rfl ?_
    exact bad (by omega)
  · rw [i_lt] at c
    refine z_go 90 rfl ?_
    refine z_br rfl rfl (fun d => ?_) (fun d => ?_) <;> (try dsimp only at d)
    · rw [i_le] at d
      refine z_go 90 rfl ?_
      refine rr_no G rfl rfl rfl rfl rfl ?_
      refine z_go 2 rfl ?_
      obtain ⟨n, rfl, hn⟩ := i_nat (x := p) (by omega)
      rw [i_nI hn] at c d
      have H := rc_global1 (X := X) (h := h) (m := m) (S := sThrow S 0) G n (sI0_T I 0 (by decide)) (by omega) (by omega) hN hg
      have e : sGlobal S (nI n) = sGlobB (sThrow S 0) n := by
        unfold sGlobal
        rw [i_nI hn, if_pos (by omega)]
        rfl
      rw [e]
      exact H
    · rw [i_le] at d
      refine z_go 90 rfl ?_
      exact bad (by omega)
end ZRM
