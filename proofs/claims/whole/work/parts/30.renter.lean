def sSp (n : Nat) : Nat := if n = 0 then 0 else sPad n
def sSz (a b c d : Nat) : Nat → Nat := fun k => match k with
  | 0 => a
  | 1 => b
  | 2 => c
  | _ => d
def sEnt1 (S : zS) (fr e n many next : Nat) : zS := sOpen (sPaint (zV (zV (zV S 11 (upd (S 11) (4 * fr + many) (nI next))) 12 (upd (S 12) (4 * fr + many) (nI n))) 13 (upd (S 13) (4 * fr + many) 0)) next (next + sPad n) (if next + sPad n = e then 243 else 242)) next n
def sEntL (s : Nat → Nat) (fr e : Nat) (t : zS × Nat × Nat) : Nat → zS × Nat × Nat
  | 0 => t
  | k + 1 => if s k = 0 then sEntL s fr e t k else (sEnt1 (sEntL s fr e t k).1 fr e (s k) (sEntL s fr e t k).2.1 (sEntL s fr e t k).2.2, (sEntL s fr e t k).2.1 + 1, (sEntL s fr e t k).2.2 + sPad (s k))
def sFe (S : zS) : Nat := if sN S 14 0 = 0 then sN S 1 0 / 4 else sN S 8 (sN S 14 0 - 1)
def sEnterB (S : zS) (s : Nat → Nat) : Int32 × zS :=
  if sFe S < 32 + zSum (fun i => sSp (s i)) 4 + sN S 1 0 / 8 then (-1, S) else
    (nI (sFe S - (32 + zSum (fun i => sSp (s i)) 4)),
      zV (zV (sEntL s (sN S 14 0) (sFe S) (sPaint (zV (zV S 8 (upd (S 8) (sN S 14 0) (nI (sFe S - (32 + zSum (fun i => sSp (s i)) 4))))) 9 (upd (S 9) (sN S 14 0) (nI (sFe S)))) (sFe S - (32 + zSum (fun i => sSp (s i)) 4)) (sFe S - (32 + zSum (fun i => sSp (s i)) 4) + 32) 241, 0, sFe S - (32 + zSum (fun i => sSp (s i)) 4) + 32) 4).1 14 (fun _ => nI (sN S 14 0 + 1))) 10
        (upd ((sEntL s (sN S 14 0) (sFe S) (sPaint (zV (zV S 8 (upd (S 8) (sN S 14 0) (nI (sFe S - (32 + zSum (fun i => sSp (s i)) 4))))) 9 (upd (S 9) (sN S 14 0) (nI (sFe S)))) (sFe S - (32 + zSum (fun i => sSp (s i)) 4)) (sFe S - (32 + zSum (fun i => sSp (s i)) 4) + 32) 241, 0, sFe S - (32 + zSum (fun i => sSp (s i)) 4) + 32) 4).1 10) (sN S 14 0) (nI (sEntL s (sN S 14 0) (sFe S) (sPaint (zV (zV S 8 (upd (S 8) (sN S 14 0) (nI (sFe S - (32 + zSum (fun i => sSp (s i)) 4))))) 9 (upd (S 9) (sN S 14 0) (nI (sFe S)))) (sFe S - (32 + zSum (fun i => sSp (s i)) 4)) (sFe S - (32 + zSum (fun i => sSp (s i)) 4) + 32) 241, 0, sFe S - (32 + zSum (fun i => sSp (s i)) 4) + 32) 4).2.1)))
theorem sEntL_f (s : Nat → Nat) (fr e : Nat) (t : zS × Nat × Nat) (k : Nat) : (sEntL s fr e t k).1 14 = t.1 14 ∧ (sEntL s fr e t k).1 1 = t.1 1 ∧ (sEntL s fr e t k).2.1 ≤ t.2.1 + k ∧ (sEntL s fr e t k).2.2 = t.2.2 + zSum (fun i => sSp (s i)) k := by
  induction k with
  | zero => exact ⟨rfl, rfl, Nat.le_refl _, rfl⟩
  | succ k ih =>
    obtain ⟨i1, i2, i3, i4⟩ := ih
    show (sEntL s fr e t (k + 1)).1 14 = _ ∧ _
    unfold sEntL
    have hz : zSum (fun i => sSp (s i)) (k + 1) = zSum (fun i => sSp (s i)) k + sSp (s k) := rfl
    rw [hz]
    by_cases c : s k = 0
    · rw [if_pos c]
      have : sSp (s k) = 0 := by unfold sSp; rw [if_pos c]
      exact ⟨i1, i2, by omega, by omega⟩
    · rw [if_neg c]
      have : sSp (s k) = sPad (s k) := by unfold sSp; rw [if_neg c]
      exact ⟨i1, i2, by show _ + 1 ≤ _; omega, by show _ + sPad (s k) = _; omega⟩
theorem sSp_m (s : Nat → Nat) (k : Nat) : zSum (fun i => sSp (s i)) k % 32 = 0 := by
  induction k with
  | zero => rfl
  | succ k ih =>
    show (zSum (fun i => sSp (s i)) k + sSp (s k)) % 32 = 0
    have : sSp (s k) % 32 = 0 := by
      unfold sSp
      split
      · rfl
      · unfold sPad; omega
    omega
section ZEN
variable {X : zCx} {h : zHp} {m : Nat} {S : zS} {cc : Nat}
/-- the second half of enter: the variables are laid -/
theorem rc_enter2 (G : zG X) (a b c d fr e at' : Nat) (S0 : zS) (Q : zRs → zHp → Prop) (hs : ∀ k, sSz a b c d k ≤ 128) (he : at' + 32 + zSum (fun i => sSp (sSz a b c d i)) 4 = e) (he2 : e ≤ 2048) (hfr : fr ≤ 10) (h8 : at' % 8 = 0) (e14 : S0 14 0 = nI fr)
    (hQ : Q (.inl (some (.int (nI at')))) (zr X h m (zV (zV (sEntL (sSz a b c d) fr e (S0, 0, at' + 32) 4).1 14 (fun _ => nI (fr + 1))) 10 (upd ((sEntL (sSz a b c d) fr e (S0, 0, at' + 32) 4).1 10) fr (nI (sEntL (sSz a b c d) fr e (S0, 0, at' + 32) 4).2.1))))) :
    ∀ o10 o11, Z X MX11_enter (1, 127, h.2.1, h.2.2) (zr X h m S0) 223 [some (.ref m), some (.int (nI a)), some (.int (nI b)), some (.int (nI c)), some (.int (nI d)), some (.int (nI e)), some (.int (nI at')), some (.int (nI 0)), some (.int (nI (at' + 32))), some (.int (nI 0)), o10, o11] [.int 4, .int (nI 0)] Q := by
  have hmono : ∀ k, k < 4 → zSum (fun i => sSp (sSz a b c d i)) k + sSp (sSz a b c d k) ≤ zSum (fun i => sSp (sSz a b c d i)) 4 := by
    intro k hk
    have : k = 0 ∨ k = 1 ∨ k = 2 ∨ k = 3 := by omega
    rcases this with rfl | rfl | rfl | rfl <;> simp only [zSum] <;> omega
  refine zdown (P := fun k => ∀ o10 o11, Z X MX11_enter (1, 127, h.2.1, h.2.2) (zr X h m (sEntL (sSz a b c d) fr e (S0, 0, at' + 32) k).1) 223 [some (.ref m), some (.int (nI a)), some (.int (nI b)), some (.int (nI c)), some (.int (nI d)), some (.int (nI e)), some (.int (nI at')), some (.int (nI (sEntL (sSz a b c d) fr e (S0, 0, at' + 32) k).2.1)), some (.int (nI (sEntL (sSz a b c d) fr e (S0, 0, at' + 32) k).2.2)), some (.int (nI k)), o10, o11] [.int 4, .int (nI k)] Q) 4 (fun k hk ih o10 o11 => ?_) 0 (by omega)
  obtain ⟨t1, t2, t3, t4⟩ := sEntL_f (sSz a b c d) fr e (S0, 0, at' + 32) k
  have e14' : (sEntL (sSz a b c d) fr e (S0, 0, at' + 32) k).1 14 0 = nI fr := by rw [t1]; exact e14
  dsimp only at t3 t4
  have hmd := sSp_m (sSz a b c d) k
  have hstep : ∀ (hk4 : k < 4), Z X MX11_enter (1, 127, h.2.1, h.2.2) (zr X h m (sEntL (sSz a b c d) fr e (S0, 0, at' + 32) k).1) 261 [some (.ref m), some (.int (nI a)), some (.int (nI b)), some (.int (nI c)), some (.int (nI d)), some (.int (nI e)), some (.int (nI at')), some (.int (nI (sEntL (sSz a b c d) fr e (S0, 0, at' + 32) k).2.1)), some (.int (nI (sEntL (sSz a b c d) fr e (S0, 0, at' + 32) k).2.2)), some (.int (nI k)), some (.int (nI (sSz a b c d k))), o11] [.int (nI (sSz a b c d k))] Q := by
    intro hk4
    have ih := ih hk4
    have hm := hmono k hk4
    have hn := hs k
    generalize hnn : sSz a b c d k = n at hm hn ⊢
    have hE : sEntL (sSz a b c d) fr e (S0, 0, at' + 32) (k + 1) = if n = 0 then sEntL (sSz a b c d) fr e (S0, 0, at' + 32) k else (sEnt1 (sEntL (sSz a b c d) fr e (S0, 0, at' + 32) k).1 fr e n (sEntL (sSz a b c d) fr e (S0, 0, at' + 32) k).2.1 (sEntL (sSz a b c d) fr e (S0, 0, at' + 32) k).2.2, (sEntL (sSz a b c d) fr e (S0, 0, at' + 32) k).2.1 + 1, (sEntL (sSz a b c d) fr e (S0, 0, at' + 32) k).2.2 + sPad n) := by rw [← hnn]; rfl
    rw [hE] at ih
    clear hE
    generalize sEntL (sSz a b c d) fr e (S0, 0, at' + 32) k = t at ih e14' t3 t4 ⊢
    obtain ⟨T, many, next⟩ := t
    dsimp only at ih e14' t3 t4 ⊢
    refine z_br rfl rfl (fun g => ?_) (fun g => ?_) <;> (try dsimp only at g)
    · rw [show (0 : Int32) = nI 0 from rfl, n_eq (by omega) (by omega)] at g
      rw [if_neg g] at ih
      have hp : sSp n = sPad n := by unfold sSp; rw [if_neg g]
      rw [hp] at hm
      have hpm : sPad n ≤ 160 ∧ n + 32 ≤ sPad n := by unfold sPad; omega
      refine z_go 90 rfl ?_
      refine r_v14 e14' rfl rfl rfl ?_
      refine z_go 90 rfl ?_
      rw [show (4 : Int32) * nI fr + nI many = nI (4 * fr + many) from by rw [show (4 : Int32) = nI 4 from rfl, n_mul, n_add]]
      refine z_get zr_o rfl rfl rfl rfl ?_
      refine z_go 90 rfl ?_
      refine r_st11 (4 * fr + many) (i_nI (by omega)) (by omega) rfl ?_
      refine z_go 90 rfl ?_
      refine z_get zr_o rfl rfl rfl rfl ?_
      refine z_go 90 rfl ?_
      refine r_st12 (4 * fr + many) (i_nI (by omega)) (by omega) rfl ?_
      refine z_go 90 rfl ?_
      refine z_get zr_o rfl rfl rfl rfl ?_
      refine z_go 90 rfl ?_
      refine r_st13 (4 * fr + many) (i_nI (by omega)) (by omega) rfl ?_
      refine z_go 90 rfl ?_
      refine z_cS (rc_padded G n (by omega)) KX11_padded SX11_padded rfl rfl PX11_padded rfl rfl rfl rfl ?_
      refine z_go 90 rfl ?_
      rw [show (n + 31) / 32 * 32 + 32 = sPad n from rfl, n_add]
      refine z_cS (rc_padded G n (by omega)) KX11_padded SX11_padded rfl rfl PX11_padded rfl rfl rfl rfl ?_
      refine z_go 90 rfl ?_
      rw [show (n + 31) / 32 * 32 + 32 = sPad n from rfl, n_add]
      have fin : ∀ v : Int32, v = (if next + sPad n = e then 243 else 242) → Z X MX11_enter (1, 127, h.2.1, h.2.2) (zr X h m (zV (zV (zV T 11 (upd (T 11) (4 * fr + many) (nI next))) 12 (upd (T 12) (4 * fr + many) (nI n))) 13 (upd (T 13) (4 * fr + many) 0))) 340 [some (.ref m), some (.int (nI a)), some (.int (nI b)), some (.int (nI c)), some (.int (nI d)), some (.int (nI e)), some (.int (nI at')), some (.int (nI many + 1)), some (.int (nI next)), some (.int (nI k)), some (.int (nI n)), some (.int (nI (4 * fr + many)))] [.int v, .int (nI (next + sPad n)), .int (nI next), .ref m] Q := by
        intro v hv
        refine z_cV zr_o (rc_paint G next (next + sPad n) v (by omega) (by omega)) KX11_paint IX11_paint VX11_paint rfl rfl rfl PX11_paint rfl rfl rfl rfl ?_
        refine z_go 90 rfl ?_
        refine z_cV zr_o (rc_opens G next n (by omega) (by omega)) KX11_opens IX11_opens VX11_opens rfl rfl rfl PX11_opens rfl rfl rfl rfl ?_
        refine z_go 90 rfl ?_
        refine z_cS (rc_padded G n (by omega)) KX11_padded SX11_padded rfl rfl PX11_padded rfl rfl rfl rfl ?_
        refine z_go 90 rfl ?_
        rw [show (n + 31) / 32 * 32 + 32 = sPad n from rfl, n_add]
        rw [show nI k + (1 : Int32) = nI (k + 1) from n_succ k, show nI many + (1 : Int32) = nI (many + 1) from n_succ many]
        have := ih (some (.int (nI n))) (some (.int (nI (4 * fr + many))))
        unfold sEnt1 at this
        rw [hv]
        exact this
      refine z_br rfl rfl (fun q => ?_) (fun q => ?_) <;> (try dsimp only at q)
      · refine z_go 90 rfl ?_
        exact fin _ (by rw [n_eq (by omega) (by omega)] at q; rw [if_neg q])
      · refine z_go 90 rfl ?_
        exact fin _ (by rw [n_eq (by omega) (by omega)] at q; rw [if_pos q])
    · rw [show (0 : Int32) = nI 0 from rfl, n_eq (by omega) (by omega)] at g
      rw [if_pos g] at ih
      refine z_go 90 rfl ?_
      rw [show nI k + (1 : Int32) = nI (k + 1) from n_succ k]
      exact ih _ _
  refine z_br rfl rfl (fun g => ?_) (fun g => ?_) <;> (try dsimp only at g)
  · rw [show (4 : Int32) = nI 4 from rfl, n_le (by omega) (by omega)] at g
    have : k = 4 := by omega
    subst this
    refine z_go 90 rfl ?_
    refine z_get zr_o rfl rfl rfl rfl ?_
    refine z_go 90 rfl ?_
    refine r_v14 e14' rfl rfl rfl ?_
    refine z_go 90 rfl ?_
    refine r_p14 rfl rfl rfl ?_
    refine z_go 90 rfl ?_
    refine r_st10 fr (i_nI (by omega)) (by omega) rfl ?_
    refine z_go 90 rfl ?_
    rw [show nI fr + (1 : Int32) = nI (fr + 1) from n_succ fr]
    exact z_iret rfl rfl hQ
  · rw [show (4 : Int32) = nI 4 from rfl, n_le (by omega) (by omega)] at g
    have hk4 : k < 4 := by omega
    have h9 := hstep hk4
    have : k = 0 ∨ k = 1 ∨ k = 2 ∨ k = 3 := by omega
    rcases this with rfl | rfl | rfl | rfl
    · refine z_go 90 rfl ?_
      refine z_br rfl rfl (fun c => absurd c (by first | decide | (dsimp only; decide))) (fun _ => ?_)
      refine z_go 90 rfl ?_
      exact h9
    · refine z_go 90 rfl ?_
      refine z_br rfl rfl (fun _ => ?_) (fun c => absurd c (by first | decide | (dsimp only; decide)))
      refine z_go 90 rfl ?_
      refine z_br rfl rfl (fun c => absurd c (by first | decide | (dsimp only; decide))) (fun _ => ?_)
      refine z_go 90 rfl ?_
      exact h9
    · refine z_go 90 rfl ?_
      refine z_br rfl rfl (fun _ => ?_) (fun c => absurd c (by first | decide | (dsimp only; decide)))
      refine z_go 90 rfl ?_
      refine z_br rfl rfl (fun _ => ?_) (fun c => absurd c (by first | decide | (dsimp only; decide)))
      refine z_go 90 rfl ?_
      refine z_br rfl rfl (fun c => absurd c (by first | decide | (dsimp only; decide))) (fun _ => ?_)
      refine z_go 90 rfl ?_
      exact h9
    · refine z_go 90 rfl ?_
      refine z_br rfl rfl (fun _ => ?_) (fun c => absurd c (by first | decide | (dsimp only; decide)))
      refine z_go 90 rfl ?_
      refine z_br rfl rfl (fun _ => ?_) (fun c => absurd c (by first | decide | (dsimp only; decide)))
      refine z_go 90 rfl ?_
      refine z_br rfl rfl (fun _ => ?_) (fun c => absurd c (by first | decide | (dsimp only; decide)))
      refine z_go 90 rfl ?_
      exact h9
noncomputable def sBadE (p q r u : Int32) : Prop := ¬ (0 ≤ p.toInt ∧ p.toInt ≤ 128) ∨ ¬ (0 ≤ q.toInt ∧ q.toInt ≤ 128) ∨ ¬ (0 ≤ r.toInt ∧ r.toInt ≤ 128) ∨ ¬ (0 ≤ u.toInt ∧ u.toInt ≤ 128) ∨ p ||| q ||| r ||| u = 0
noncomputable def sEnter (S : zS) (p q r u : Int32) : Int32 × zS := zif (sBadE p q r u) (0, sThrow S 1) (sEnterB (sThrow S 0) (sSz p.toInt.toNat q.toInt.toNat r.toInt.toNat u.toInt.toNat))
theorem rc_enter1 (G : zG X) (a b c d : Nat) (I : sI0 S) (In : sIn S) (If : sIf S) (hs : ∀ k, sSz a b c d k ≤ 128) : Z X MX11_enter (1, 127, h.2.1, h.2.2) (zr X h m S) 55 [some (.ref m), some (.int (nI a)), some (.int (nI b)), some (.int (nI c)), some (.int (nI d)), none, none, none, none, none, none, none] [.ref m] (zX (zr X h m (sEnterB S (sSz a b c d)).2) (some (.int (sEnterB S (sSz a b c d)).1))) := by
  have e14 : S 14 0 = nI (sN S 14 0) := sN_eq I rfl
  have e1 : S 1 0 = nI (sN S 1 0) := sN_eq I rfl
  have f1 := If.1
  obtain ⟨N1, N2, N3, N4⟩ := In
  have hfe : sFe S ≤ 2048 ∧ sFe S % 8 = 0 := by
    unfold sFe
    split
    · omega
    · obtain ⟨g1, g2, g3, g4, g5, -⟩ := If.2 (sN S 14 0 - 1) (by omega)
      omega
  have hsum : ∀ k, k ≤ 4 → zSum (fun i => sSp (sSz a b c d i)) k ≤ 640 := by
    intro k hk
    have := zSum_le (g := fun i => sSp (sSz a b c d i)) (b := 160) (fun i => by have := hs i; show sSp _ ≤ 160; unfold sSp sPad; split <;> omega) k
    omega
  have H : Z X MX11_enter (1, 127, h.2.1, h.2.2) (zr X h m S) 96 [some (.ref m), some (.int (nI a)), some (.int (nI b)), some (.int (nI c)), some (.int (nI d)), some (.int (nI (sFe S))), some (.int (nI (sFe S) - 32)), some (.int (nI 0)), none, none, none, none] [.int 4, .int (nI 0)] (zX (zr X h m (sEnterB S (sSz a b c d)).2) (some (.int (sEnterB S (sSz a b c d)).1))) := by
    refine zdown (P := fun k => ∀ (x : Int32) o8, x.toInt = (sFe S : Int) - 32 - (zSum (fun i => sSp (sSz a b c d i)) k : Nat) → Z X MX11_enter (1, 127, h.2.1, h.2.2) (zr X h m S) 96 [some (.ref m), some (.int (nI a)), some (.int (nI b)), some (.int (nI c)), some (.int (nI d)), some (.int (nI (sFe S))), some (.int x), some (.int (nI k)), o8, none, none, none] [.int 4, .int (nI k)] (zX (zr X h m (sEnterB S (sSz a b c d)).2) (some (.int (sEnterB S (sSz a b c d)).1)))) 4 (fun k hk ih x o8 hx => ?_) 0 (by omega) _ none (by
        have q0 := i_nI (n := sFe S) (by omega)
        have q1 : (32 : Int32).toInt = 32 := rfl
        rw [show zSum (fun i => sSp (sSz a b c d i)) 0 = 0 from rfl]
        rw [i_sub] <;> omega)
    have hsk := hsum k hk
    have hstep : ∀ (hk4 : k < 4), Z X MX11_enter (1, 127, h.2.1, h.2.2) (zr X h m S) 136 [some (.ref m), some (.int (nI a)), some (.int (nI b)), some (.int (nI c)), some (.int (nI d)), some (.int (nI (sFe S))), some (.int x), some (.int (nI k)), some (.int (nI (sSz a b c d k))), none, none, none] [.int (nI (sSz a b c d k)), .int x] (zX (zr X h m (sEnterB S (sSz a b c d)).2) (some (.int (sEnterB S (sSz a b c d)).1))) := by
      intro hk4
      have ih := ih hk4
      have hn := hs k
      have hz : zSum (fun i => sSp (sSz a b c d i)) (k + 1) = zSum (fun i => sSp (sSz a b c d i)) k + sSp (sSz a b c d k) := rfl
      generalize sSz a b c d k = n at hn hz ⊢
      refine z_br rfl rfl (fun g => ?_) (fun g => ?_) <;> (try dsimp only at g)
      · rw [show (0 : Int32) = nI 0 from rfl, n_eq (by omega) (by omega)] at g
        have hp : sSp n = sPad n := by unfold sSp; rw [if_neg g]
        have hpm : sPad n ≤ 160 ∧ n + 32 ≤ sPad n := by unfold sPad; omega
        refine z_go 90 rfl ?_
        refine z_cS (rc_padded G n (by omega)) KX11_padded SX11_padded rfl rfl PX11_padded rfl rfl rfl rfl ?_
        refine z_go 90 rfl ?_
        rw [show (n + 31) / 32 * 32 + 32 = sPad n from rfl]
        rw [show nI k + (1 : Int32) = nI (k + 1) from n_succ k]
        refine ih _ _ ?_
        have q0 := i_nI (n := sPad n) (by omega)
        rw [i_sub] <;> omega
      · rw [show (0 : Int32) = nI 0 from rfl, n_eq (by omega) (by omega)] at g
        have hp : sSp n = 0 := by unfold sSp; rw [if_pos g]
        refine z_go 90 rfl ?_
        rw [show nI k + (1 : Int32) = nI (k + 1) from n_succ k]
        refine ih _ _ ?_
        dsimp only
        have q0 : (0 : Int32).toInt = 0 := rfl
        rw [i_sub] <;> omega
    refine z_br rfl rfl (fun g => ?_) (fun g => ?_) <;> (try dsimp only at g)
    · rw [show (4 : Int32) = nI 4 from rfl, n_le (by omega) (by omega)] at g
      have : k = 4 := by omega
      subst this
      refine z_go 90 rfl ?_
      refine r_v1 e1 rfl rfl rfl ?_
      refine z_go 90 rfl ?_
      refine z_div rfl (by decide) ?_
      refine z_go 90 rfl ?_
      rw [show nI (sN S 1 0) / (8 : Int32) = nI (sN S 1 0 / 8) from n_div (b := 8) (by omega) (by omega) (by omega)]
      have q8 := i_nI (n := sN S 1 0 / 8) (by omega)
      refine z_br rfl rfl (fun q => ?_) (fun q => ?_) <;> (try dsimp only at q)
      · rw [i_le] at q
        obtain ⟨y, rfl, hy⟩ := i_nat (x := x) (by omega)
        rw [i_nI hy] at hx q
        have hy2 : sFe S - (32 + zSum (fun i => sSp (sSz a b c d i)) 4) = y := by omega
        have hB : ¬ sFe S < 32 + zSum (fun i => sSp (sSz a b c d i)) 4 + sN S 1 0 / 8 := by omega
        unfold sEnterB
        rw [if_neg hB, hy2]
        have hmd := sSp_m (sSz a b c d) 4
        refine z_go 90 rfl ?_
        refine z_get zr_o rfl rfl rfl rfl ?_
        refine z_go 90 rfl ?_
        refine r_v14 e14 rfl rfl rfl ?_
        refine z_go 90 rfl ?_
        refine r_st8 (sN S 14 0) (i_nI (by omega)) (by omega) rfl ?_
        refine z_go 90 rfl ?_
        refine z_get zr_o rfl rfl rfl rfl ?_
        refine z_go 90 rfl ?_
        refine r_v14 e14 rfl rfl rfl ?_
        refine z_go 90 rfl ?_
        refine r_st9 (sN S 14 0) (i_nI (by omega)) (by omega) rfl ?_
        refine z_go 90 rfl ?_
        rw [show nI y + (32 : Int32) = nI (y + 32) from n_add y 32]
        refine z_cV zr_o (rc_paint G y (y + 32) 241 (by omega) (by omega)) KX11_paint IX11_paint VX11_paint rfl rfl rfl PX11_paint rfl rfl rfl rfl ?_
        refine z_go 90 rfl ?_
        rw [show nI y + (32 : Int32) = nI (y + 32) from n_add y 32]
        refine rc_enter2 G a b c d (sN S 14 0) (sFe S) y _ _ hs (by omega) (by omega) (by omega) (by omega) (by exact e14) ?_ none none
        exact ⟨rfl, rfl⟩
      · rw [i_le] at q
        have hB : sFe S < 32 + zSum (fun i => sSp (sSz a b c d i)) 4 + sN S 1 0 / 8 := by omega
        unfold sEnterB
        rw [if_pos hB]
        refine z_go 90 rfl ?_
        exact z_iret rfl rfl ⟨rfl, rfl⟩
    · rw [show (4 : Int32) = nI 4 from rfl, n_le (by omega) (by omega)] at g
      have hk4 : k < 4 := by omega
      have h9 := hstep hk4
      have : k = 0 ∨ k = 1 ∨ k = 2 ∨ k = 3 := by omega
      rcases this with rfl | rfl | rfl | rfl
      · refine z_go 90 rfl ?_
        refine z_br rfl rfl (fun c => absurd c (by first | decide | (dsimp only; decide))) (fun _ => ?_)
        refine z_go 90 rfl ?_
        exact h9
      · refine z_go 90 rfl ?_
        refine z_br rfl rfl (fun _ => ?_) (fun c => absurd c (by first | decide | (dsimp only; decide)))
        refine z_go 90 rfl ?_
        refine z_br rfl rfl (fun c => absurd c (by first | decide | (dsimp only; decide))) (fun _ => ?_)
        refine z_go 90 rfl ?_
        exact h9
      · refine z_go 90 rfl ?_
        refine z_br rfl rfl (fun _ => ?_) (fun c => absurd c (by first | decide | (dsimp only; decide)))
        refine z_go 90 rfl ?_
        refine z_br rfl rfl (fun _ => ?_) (fun c => absurd c (by first | decide | (dsimp only; decide)))
        refine z_go 90 rfl ?_
        refine z_br rfl rfl (fun c => absurd c (by first | decide | (dsimp only; decide))) (fun _ => ?_)
        refine z_go 90 rfl ?_
        exact h9
      · refine z_go 90 rfl ?_
        refine z_br rfl rfl (fun _ => ?_) (fun c => absurd c (by first | decide | (dsimp only; decide)))
        refine z_go 90 rfl ?_
        refine z_br rfl rfl (fun _ => ?_) (fun c => absurd c (by first | decide | (dsimp only; decide)))
        refine z_go 90 rfl ?_
        refine z_br rfl rfl (fun _ => ?_) (fun c => absurd c (by first | decide | (dsimp only; decide)))
        refine z_go 90 rfl ?_
        exact h9
  refine r_v14 e14 rfl rfl rfl ?_
  refine z_go 90 rfl ?_
  refine z_br rfl rfl (fun g => ?_) (fun g => ?_) <;> (try dsimp only at g)
  · rw [show (0 : Int32) = nI 0 from rfl, n_eq (by omega) (by omega)] at g
    refine z_go 90 rfl ?_
    refine z_get zr_o rfl rfl rfl rfl ?_
    refine z_go 90 rfl ?_
    refine r_v14 e14 rfl rfl rfl ?_
    refine z_go 90 rfl ?_
    rw [show nI (sN S 14 0) - (1 : Int32) = nI (sN S 14 0 - 1) from n_sub (b := 1) (by omega) (by omega)]
    refine r_lv8 (sN S 14 0 - 1) (sN_eq I rfl) (i_nI (by omega)) (by omega) rfl ?_
    refine z_go 90 rfl ?_
    have : sFe S = sN S 8 (sN S 14 0 - 1) := by unfold sFe; rw [if_neg g]
    rw [← this]
    exact H
  · rw [show (0 : Int32) = nI 0 from rfl, n_eq (by omega) (by omega)] at g
    refine z_go 90 rfl ?_
    refine r_v1 e1 rfl rfl rfl ?_
    refine z_go 90 rfl ?_
    refine z_div rfl (by decide) ?_
    refine z_go 90 rfl ?_
    rw [show nI (sN S 1 0) / (4 : Int32) = nI (sN S 1 0 / 4) from n_div (b := 4) (by omega) (by omega) (by omega)]
    have : sFe S = sN S 1 0 / 4 := by unfold sFe; rw [if_pos g]
    rw [← this]
    exact H
theorem rc_enter (G : zG X) (I : sInv S cc) (p q r u : Int32) : ZM X MX11_enter 1 127 [.ref m, .int p, .int q, .int r, .int u] (zr X h m S) (zX (zr X h m (sEnter S p q r u).2) (some (.int (sEnter S p q r u).1))) := by
  refine zm_of_z G KX11_enter rfl rfl ?_
  refine z_go 90 rfl ?_
  have bad : sBadE p q r u → Z X MX11_enter (1, 127, h.2.1, h.2.2) (zr X h m S) 46 [some (.ref m), some (.int p), some (.int q), some (.int r), some (.int u), none, none, none, none, none, none, none] [.int 1, .ref m] (zX (zr X h m (sEnter S p q r u).2) (some (.int (sEnter S p q r u).1))) := by
    intro hb
    refine rr_yes G (by decide) rfl rfl rfl rfl rfl ?_
    refine z_go 90 rfl ?_
    refine z_iret rfl rfl ?_
    unfold sEnter
    rw [zif_pos hb]
    exact ⟨rfl, rfl⟩
  refine z_cS (rc_isSize G p) KX11_isSize SX11_isSize rfl rfl PX11_isSize rfl rfl rfl rfl ?_
  refine z_go 90 rfl ?_
  refine z_br rfl rfl (fun c1 => ?_) (fun c1 => ?_) <;> (try dsimp only at c1)
  · refine z_go 90 rfl ?_
    exact bad (Or.inl (fun z => by rw [if_pos z] at c1; exact absurd c1 (by decide)))
  have d1 : 0 ≤ p.toInt ∧ p.toInt ≤ 128 := Classical.byContradiction fun z => by rw [if_neg z] at c1; exact c1 rfl
  refine z_go 90 rfl ?_
  refine z_cS (rc_isSize G q) KX11_isSize SX11_isSize rfl rfl PX11_isSize rfl rfl rfl rfl ?_
  refine z_go 90 rfl ?_
  refine z_br rfl rfl (fun c2 => ?_) (fun c2 => ?_) <;> (try dsimp only at c2)
  · refine z_go 90 rfl ?_
    exact bad (Or.inr (Or.inl (fun z => by rw [if_pos z] at c2; exact absurd c2 (by decide))))
  have d2 : 0 ≤ q.toInt ∧ q.toInt ≤ 128 := Classical.byContradiction fun z => by rw [if_neg z] at c2; exact c2 rfl
  refine z_go 90 rfl ?_
  refine z_cS (rc_isSize G r) KX11_isSize SX11_isSize rfl rfl PX11_isSize rfl rfl rfl rfl ?_
  refine z_go 90 rfl ?_
  refine z_br rfl rfl (fun c3 => ?_) (fun c3 => ?_) <;> (try dsimp only at c3)
  · refine z_go 90 rfl ?_
    exact bad (Or.inr (Or.inr (Or.inl (fun z => by rw [if_pos z] at c3; exact absurd c3 (by decide)))))
  have d3 : 0 ≤ r.toInt ∧ r.toInt ≤ 128 := Classical.byContradiction fun z => by rw [if_neg z] at c3; exact c3 rfl
  refine z_go 90 rfl ?_
  refine z_cS (rc_isSize G u) KX11_isSize SX11_isSize rfl rfl PX11_isSize rfl rfl rfl rfl ?_
  refine z_go 90 rfl ?_
  refine z_br rfl rfl (fun c4 => ?_) (fun c4 => ?_) <;> (try dsimp only at c4)
  · refine z_go 90 rfl ?_
    exact bad (Or.inr (Or.inr (Or.inr (Or.inl (fun z => by rw [if_pos z] at c4; exact absurd c4 (by decide))))))
  have d4 : 0 ≤ u.toInt ∧ u.toInt ≤ 128 := Classical.byContradiction fun z => by rw [if_neg z] at c4; exact c4 rfl
  refine z_go 90 rfl ?_
  refine z_br rfl rfl (fun c5 => ?_) (fun c5 => ?_) <;> (try dsimp only at c5)
  · refine z_go 90 rfl ?_
    refine rr_no G rfl rfl rfl rfl rfl ?_
    refine z_go 90 rfl ?_
    have hb : ¬ sBadE p q r u := by
      unfold sBadE
      rintro (z | z | z | z | z)
      · exact z d1
      · exact z d2
      · exact z d3
      · exact z d4
      · exact c5 z
    have hS : sEnter S p q r u = sEnterB (sThrow S 0) (sSz p.toInt.toNat q.toInt.toNat r.toInt.toNat u.toInt.toNat) := by
      unfold sEnter
      rw [zif_neg hb]
    rw [hS]
    obtain ⟨a, rfl, ha⟩ := i_nat d1.1
    obtain ⟨b, rfl, hb2⟩ := i_nat d2.1
    obtain ⟨c, rfl, hc⟩ := i_nat d3.1
    obtain ⟨d, rfl, hd⟩ := i_nat d4.1
    rw [i_nI ha] at d1 ⊢
    rw [i_nI hb2] at d2 ⊢
    rw [i_nI hc] at d3 ⊢
    rw [i_nI hd] at d4 ⊢
    rw [Int.toNat_natCast, Int.toNat_natCast, Int.toNat_natCast, Int.toNat_natCast]
    exact rc_enter1 (h := h) (m := m) (S := sThrow S 0) G a b c d (sI0_T I.1 0 (by decide)) I.2.1 I.2.2.2.1 (fun k => by
      unfold sSz
      split <;> omega)
  · refine z_go 90 rfl ?_
    exact bad (Or.inr (Or.inr (Or.inr (Or.inr c5))))
end ZEN
