theorem zdown {P : Nat → Prop} (n : Nat) (h : ∀ k, k ≤ n → (k < n → P (k + 1)) → P k) (k : Nat) (hk : k ≤ n) : P k := by
  have H : ∀ r k, r = n - k → k ≤ n → P k := by
    intro r
    induction r with
    | zero => intro k h1 h2; exact h k h2 (fun q => by omega)
    | succ r ih => intro k h1 h2; exact h k h2 (fun q => ih (k + 1) (by omega) (by omega))
  exact H _ k rfl hk
theorem n_add (a b : Nat) : nI a + nI b = nI (a + b) := by
  unfold nI
  rw [Int32.ofNat_add]
theorem n_mul (a b : Nat) : nI a * nI b = nI (a * b) := by
  unfold nI
  rw [Int32.ofNat_mul]
theorem n_sub {a b : Nat} (h : b ≤ a) (ha : a < 2147483648) : nI a - nI b = nI (a - b) := by
  apply i_ext
  have e1 := i_nI (n := a) ha
  have e2 := i_nI (n := b) (by omega)
  have e3 := i_nI (n := a - b) (by omega)
  rw [i_sub] <;> omega
theorem n_div {a b : Nat} (ha : a < 2147483648) (hb : 0 < b) (hb' : b < 2147483648) : nI a / nI b = nI (a / b) := by
  apply i_ext
  have e1 := i_nI (n := a) ha
  have e2 := i_nI (n := b) hb'
  have e3 : a / b ≤ a := Nat.div_le_self a b
  rw [i_div (by omega) (by omega), e1, e2, i_nI (by omega)]
  rfl
theorem n_rem {a b : Nat} (ha : a < 2147483648) (hb : 0 < b) (hb' : b < 2147483648) : nI a - nI a / nI b * nI b = nI (a % b) := by
  apply i_ext
  have e1 := i_nI (n := a) ha
  have e2 := i_nI (n := b) hb'
  have e3 : a % b ≤ a := Nat.mod_le a b
  rw [i_rem (by omega) (by omega), e1, e2, i_nI (by omega)]
  rfl
theorem i_nat {x : Int32} (h : 0 ≤ x.toInt) : ∃ a : Nat, x = nI a ∧ a < 2147483648 := by
  have := i_rng x
  refine ⟨x.toInt.toNat, i_ext ?_, by omega⟩
  rw [i_nI (by omega)]
  omega
section ZRS
variable {X : zCx} {M : zMI} {f : zFr} {h : zHp} {pc : Nat} {L : zLo} {st : List Value} {Q : zRs → zHp → Prop} {m : Nat} {S : zS}
theorem z_cong {h' : zHp} {L' : zLo} {st' : List Value} (eh : h = h') (eL : L = L') (es : st = st') (k : Z X M f h' pc L' st' Q) : Z X M f h pc L st Q := by
  subst eh eL es
  exact k
theorem z_eqS {S' : zS} (e : S = S') (k : Z X M f (zr X h m S') pc L st Q) : Z X M f (zr X h m S) pc L st Q := by
  subst e
  exact k
theorem zV_V (S : zS) (k : Nat) (g g' : Nat → Int32) : zV (zV S k g) k g' = zV S k g' := by
  funext j
  by_cases c : j = k
  · subst c; rw [zV_at, zV_at]
  · rw [zV_ne _ _ c, zV_ne _ _ c, zV_ne _ _ c]
theorem zV_comm (S : zS) {k l : Nat} (g g' : Nat → Int32) (c : k ≠ l) : zV (zV S k g) l g' = zV (zV S l g') k g := by
  funext j
  by_cases d : j = k
  · subst d; rw [zV_at, zV_ne _ _ c, zV_at]
  · by_cases d' : j = l
    · subst d'; rw [zV_at, zV_ne _ _ d, zV_at]
    · rw [zV_ne _ _ d', zV_ne _ _ d, zV_ne _ _ d, zV_ne _ _ d']
theorem zV_same (S : zS) (k : Nat) : zV S k (S k) = S := by
  funext j
  by_cases c : j = k
  · subst c; rw [zV_at]
  · rw [zV_ne _ _ c]
/-! shadows of a row of bytes -/
def sPaint (S : zS) (a b : Nat) (v : Int32) : zS := zV S 4 (fun g => if a / 8 ≤ g ∧ g < (b + 7) / 8 then v else S 4 g)
def sOpen (S : zS) (a n : Nat) : zS := zV S 4 (fun g => if a / 8 ≤ g ∧ 8 * g < a + n then (if 8 * g + 8 ≤ a + n then 0 else nI (a + n - 8 * g)) else S 4 g)
theorem rc_thrown (G : zG X) : ZM X MX11_thrown 0 100 [.ref m] (zr X h m S) (zX (zr X h m S) (some (.int (S 0 0)))) := by
  refine zm_of_z G KX11_thrown rfl rfl ?_
  refine z_go 90 rfl ?_
  refine z_get zr_o rfl rfl rfl rfl ?_
  refine z_go 90 rfl ?_
  exact z_iret rfl rfl ⟨rfl, rfl⟩
theorem rc_refuses (G : zG X) (w : Int32) : ZM X MX11_refuses 0 100 [.ref m, .int w] (zr X h m S) (zX (zr X h m (zV S 0 (fun _ => w))) (some (.int (if w = 0 then 0 else 1)))) := by
  refine zm_of_z G KX11_refuses rfl rfl ?_
  refine z_go 90 rfl ?_
  refine r_p0 rfl rfl rfl ?_
  refine z_go 90 rfl ?_
  refine z_br rfl rfl (fun c => ?_) (fun c => ?_) <;> (try dsimp only at c)
  · refine z_go 90 rfl ?_
    exact z_zret rfl rfl rfl ⟨rfl, by rw [if_pos c]⟩
  · refine z_go 90 rfl ?_
    exact z_zret rfl rfl rfl ⟨rfl, by rw [if_neg c]⟩
theorem rc_padded (G : zG X) (n : Nat) (hn : n ≤ 10000) : ZM X MX11_padded 0 100 [.int (nI n)] h (zX h (some (.int (nI ((n + 31) / 32 * 32 + 32))))) := by
  refine zm_of_z G KX11_padded rfl rfl ?_
  refine z_go 90 rfl ?_
  refine z_div rfl (by decide) ?_
  refine z_go 90 rfl ?_
  refine z_iret rfl rfl ⟨rfl, ?_⟩
  refine congrArg (fun x => Sum.inl (some (Value.int x))) ?_
  show (nI n + nI 31) / nI 32 * nI 32 + nI 32 = _
  rw [n_add, n_div (by omega) (by omega) (by omega), n_mul, n_add]
theorem rc_isSize (G : zG X) (s : Int32) : ZM X MX11_isSize 0 100 [.int s] h (zX h (some (.int (if 0 ≤ s.toInt ∧ s.toInt ≤ 128 then 1 else 0)))) := by
  have e1 : (0 : Int32).toInt = 0 := rfl
  have e2 : (128 : Int32).toInt = 128 := rfl
  refine zm_of_z G KX11_isSize rfl rfl ?_
  refine z_go 90 rfl ?_
  refine z_br rfl rfl (fun c => ?_) (fun c => ?_) <;> (try dsimp only at c)
  · rw [i_lt] at c
    refine z_go 90 rfl ?_
    exact z_zret rfl rfl rfl ⟨rfl, by rw [if_neg (by omega)]⟩
  · rw [i_lt] at c
    refine z_go 90 rfl ?_
    refine z_br rfl rfl (fun d => ?_) (fun d => ?_) <;> (try dsimp only at d)
    · rw [i_lt] at d
      refine z_go 90 rfl ?_
      exact z_zret rfl rfl rfl ⟨rfl, by rw [if_neg (by omega)]⟩
    · rw [i_lt] at d
      refine z_go 90 rfl ?_
      exact z_zret rfl rfl rfl ⟨rfl, by rw [if_pos (by omega)]⟩
def sRed (n : Nat) : Nat := if n ≤ 64 then 16 else if n ≤ 256 then 32 else if n ≤ 1024 then 64 else 128
theorem rc_redzone (G : zG X) (n : Nat) (hn : n ≤ 10000) : ZM X MX11_redzone 0 100 [.int (nI n)] h (zX h (some (.int (nI (sRed n))))) := by
  have e1 : (64 : Int32).toInt = 64 := rfl
  have e2 : (256 : Int32).toInt = 256 := rfl
  have e3 : (1024 : Int32).toInt = 1024 := rfl
  have e0 := i_nI (n := n) (by omega)
  refine zm_of_z G KX11_redzone rfl rfl ?_
  refine z_go 90 rfl ?_
  refine z_br rfl rfl (fun c => ?_) (fun c => ?_) <;> (try dsimp only at c)
  · rw [i_lt, e0] at c
    refine z_go 90 rfl ?_
    refine z_br rfl rfl (fun d => ?_) (fun d => ?_) <;> (try dsimp only at d)
    · rw [i_lt, e0] at d
      refine z_go 90 rfl ?_
      refine z_br rfl rfl (fun e => ?_) (fun e => ?_) <;> (try dsimp only at e)
      · rw [i_lt, e0] at e
        refine z_go 90 rfl ?_
        exact z_iret rfl rfl ⟨rfl, by unfold sRed; rw [if_neg (by omega), if_neg (by omega), if_neg (by omega)]; rfl⟩
      · rw [i_lt, e0] at e
        refine z_go 90 rfl ?_
        exact z_iret rfl rfl ⟨rfl, by unfold sRed; rw [if_neg (by omega), if_neg (by omega), if_pos (by omega)]; rfl⟩
    · rw [i_lt, e0] at d
      refine z_go 90 rfl ?_
      exact z_iret rfl rfl ⟨rfl, by unfold sRed; rw [if_neg (by omega), if_pos (by omega)]; rfl⟩
  · rw [i_lt, e0] at c
    refine z_go 90 rfl ?_
    exact z_iret rfl rfl ⟨rfl, by unfold sRed; rw [if_pos (by omega)]; rfl⟩
theorem rc_paint (G : zG X) (a b : Nat) (v : Int32) (hb : b ≤ 8192) (hab : a ≤ 8200) : ZM X MX11_paint 0 100 [.ref m, .int (nI a), .int (nI b), .int v] (zr X h m S) (zX (zr X h m (sPaint S a b v)) none) := by
  have e8 : (8 : Int32).toInt = 8 := rfl
  have e7 : (7 : Int32).toInt = 7 := rfl
  have ea := i_nI (n := a) (by omega)
  have eb := i_nI (n := b) (by omega)
  have d1 : nI a / 8 = nI (a / 8) := n_div (b := 8) (by omega) (by omega) (by omega)
  have d2 : (nI b + 7) / 8 = nI ((b + 7) / 8) := by
    rw [show (nI b + 7) = nI (b + 7) from n_add b 7]
    exact n_div (b := 8) (by omega) (by omega) (by omega)
  refine zm_of_z G KX11_paint rfl rfl ?_
  refine z_go 90 rfl ?_
  refine z_div rfl (by decide) ?_
  refine z_go 90 rfl ?_
  refine z_div rfl (by decide) ?_
  refine z_go 90 rfl ?_
  refine z_cong rfl (congrArg (fun x => [_, _, _, _, some (Value.int x)]) d1) (show _ = [.int (nI ((b + 7) / 8)), .int (nI (a / 8))] by rw [← d2, ← d1]) ?_
  refine z_ite (p := a / 8 ≤ (b + 7) / 8) (fun hle => ?_) (fun hle => ?_)
  · refine z_eqS (S' := zV S 4 (fun g => if a / 8 ≤ g ∧ g < a / 8 then v else S 4 g)) ?_ ?_
    · rw [show (fun g => if a / 8 ≤ g ∧ g < a / 8 then v else S 4 g) = S 4 from funext fun g => if_neg (by omega), zV_same]
    refine zdown (P := fun k => a / 8 ≤ k → Z X MX11_paint _ (zr X h m (zV S 4 (fun g => if a / 8 ≤ g ∧ g < k then v else S 4 g))) _ [_, _, _, _, some (Value.int (nI k))] [.int (nI ((b + 7) / 8)), .int (nI k)] _) ((b + 7) / 8) (fun k hk ih hak => ?_) (a / 8) hle (Nat.le_refl _)
    refine z_br rfl rfl (fun c => ?_) (fun c => ?_) <;> (try dsimp only at c)
    · rw [n_le (by omega) (by omega)] at c
      have : k = (b + 7) / 8 := by omega
      subst this
      exact z_vret rfl rfl ⟨rfl, rfl⟩
    · rw [n_le (by omega) (by omega)] at c
      refine z_go 90 rfl ?_
      refine z_get zr_o rfl rfl rfl rfl ?_
      refine z_go 90 rfl ?_
      refine r_st4 k (i_nI (by omega)) (by omega) rfl ?_
      refine z_go 90 rfl ?_
      refine z_div rfl (by decide) ?_
      refine z_go 90 rfl ?_
      refine z_cong ?_ (congrArg (fun x => [_, _, _, _, some (Value.int x)]) (n_succ k)) (show _ = [.int (nI ((b + 7) / 8)), .int (nI (k + 1))] by rw [← d2, ← n_succ]) (ih (by omega) (by omega))
      refine congrArg (zr X h m) ?_
      rw [zV_V]
      refine congrArg (zV S 4) (funext fun g => ?_)
      show (if g = k then v else if a / 8 ≤ g ∧ g < k then v else S 4 g) = if a / 8 ≤ g ∧ g < k + 1 then v else S 4 g
      by_cases c1 : g = k
      · rw [if_pos c1, if_pos (by omega)]
      · by_cases c2 : a / 8 ≤ g ∧ g < k
        · rw [if_neg c1, if_pos c2, if_pos (by omega)]
        · rw [if_neg c1, if_neg c2, if_neg (by omega)]
  · refine z_br rfl rfl (fun c => ?_) (fun c => ?_) <;> (try dsimp only at c)
    · refine z_vret rfl rfl ⟨?_, rfl⟩
      unfold sPaint
      rw [show (fun g => if a / 8 ≤ g ∧ g < (b + 7) / 8 then v else S 4 g) = S 4 from funext fun g => if_neg (by omega), zV_same]
    · rw [n_le (by omega) (by omega)] at c
      omega
end ZRS
