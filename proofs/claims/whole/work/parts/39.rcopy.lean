section ZCO
variable {X : zCx} {h : zHp} {m : Nat} {S : zS} {cc : Nat}
def sNoA (S : zS) (q : Int32) : Prop := q.toInt < 0 ∨ (sN S 1 0 : Int) < q.toInt
theorem rc_noAmount (G : zG X) (I : sInv S cc) (q : Int32) : ZM X MX11_noAmount 0 100 [.ref m, .int q] (zr X h m S) (zX (zr X h m S) (some (.int (zif (sNoA S q) 1 0)))) := by
  have N2 := I.2.1.2.1
  have t0 : (0 : Int32).toInt = 0 := rfl
  have t1 := i_nI (n := sN S 1 0) (by omega)
  refine zm_of_z G KX11_noAmount rfl rfl ?_
  refine z_go 90 rfl ?_
  refine z_br rfl rfl (fun c => ?_) (fun c => ?_) <;> (try dsimp only at c)
  · rw [i_lt] at c
    refine z_go 90 rfl ?_
    exact z_zret rfl rfl rfl ⟨rfl, by rw [zif_pos (p := sNoA S q) (Or.inl (by omega))]⟩
  rw [i_lt] at c
  refine z_go 90 rfl ?_
  refine r_v1 (sN_eq I.1 rfl) rfl rfl rfl ?_
  refine z_go 90 rfl ?_
  refine z_br rfl rfl (fun d => ?_) (fun d => ?_) <;> (try dsimp only at d)
  · rw [i_le] at d
    refine z_go 90 rfl ?_
    exact z_zret rfl rfl rfl ⟨rfl, by rw [zif_neg (p := sNoA S q) (by unfold sNoA; omega)]⟩
  · rw [i_le] at d
    refine z_go 90 rfl ?_
    exact z_zret rfl rfl rfl ⟨rfl, by rw [zif_pos (p := sNoA S q) (Or.inr (by omega))]⟩
/-- fill -/
noncomputable def sFill (S : zS) (p q v : Int32) : Int32 × zS := zif (sNoA S q) (0, sThrow S 1) (match sFw S p 0 q.toInt.toNat with
  | none => (1, sMw (sThrow S 0) p.toInt.toNat q.toInt.toNat (fun _ => v.toInt8.toInt32))
  | some _ => (0, (sRight (sThrow S 0) p 0 q.toInt.toNat q 1).2))
theorem rc_fill (G : zG X) (I : sInv S cc) (p q v : Int32) : ZM X MX11_fill 4 210 [.ref m, .int p, .int q, .int v] (zr X h m S) (zX (zr X h m (sFill S p q v).2) (some (.int (sFill S p q v).1))) := by
  have N2 := I.2.1.2.1
  refine zm_of_z G KX11_fill rfl rfl ?_
  refine z_go 90 rfl ?_
  refine z_cV zr_o (rc_noAmount G I q) KX11_noAmount IX11_noAmount VX11_noAmount rfl rfl rfl PX11_noAmount rfl rfl rfl rfl ?_
  refine z_go 90 rfl ?_
  refine z_ite (p := sNoA S q) (fun nv => ?_) (fun nv => ?_)
  · rw [zif_pos nv]
    refine z_br rfl rfl (fun c => absurd c (by first | decide | (dsimp only; decide))) (fun _ => ?_)
    refine z_go 90 rfl ?_
    refine rr_yesN G (by decide) rfl rfl rfl rfl rfl ?_
    refine z_go 90 rfl ?_
    refine z_zret rfl rfl rfl ?_
    unfold sFill
    rw [zif_pos nv]
    exact ⟨rfl, rfl⟩
  · rw [zif_neg nv]
    refine z_br rfl rfl (fun _ => ?_) (fun c => absurd c (by first | decide | (dsimp only; decide)))
    refine z_go 90 rfl ?_
    refine rr_noN G rfl rfl rfl rfl rfl ?_
    have hS := zif_neg (a := ((0 : Int32), sThrow S 1)) (b := (match sFw S p 0 q.toInt.toNat with
      | none => (1, sMw (sThrow S 0) p.toInt.toNat q.toInt.toNat (fun _ => v.toInt8.toInt32))
      | some _ => (0, (sRight (sThrow S 0) p 0 q.toInt.toNat q 1).2))) nv
    rw [show sFill S p q v = _ from hS]
    unfold sNoA at nv
    obtain ⟨n, rfl, hn⟩ := i_nat (x := q) (by omega)
    rw [i_nI hn] at nv ⊢
    rw [Int.toNat_natCast]
    refine z_go 90 rfl ?_
    refine z_cV zr_o (rc_right G (sInv_T I 0 (by decide)) p 0 n (nI n) 1 (Or.inr rfl) (by omega) (by omega)) KX11_right IX11_right VX11_right rfl rfl rfl PX11_right rfl rfl rfl rfl ?_
    refine z_go 90 rfl ?_
    cases hq : sFw S p 0 n with
    | some k =>
      have hr := sRight_s (many := nI n) (wr := 1) (show sFw (sThrow S 0) p 0 n = some k from hq)
      rw [hr]
      refine z_br rfl rfl (fun c => absurd c (by first | decide | (dsimp only; decide))) (fun _ => ?_)
      refine z_go 90 rfl ?_
      exact z_zret rfl rfl rfl ⟨rfl, rfl⟩
    | none =>
      rw [sRight_n (many := nI n) (wr := 1) (show sFw (sThrow S 0) p 0 n = none from hq)]
      refine z_br rfl rfl (fun _ => ?_) (fun c => absurd c (by first | decide | (dsimp only; decide)))
      refine z_go 90 rfl ?_
      refine z_eqS (sMw_0 (sThrow S 0) p.toInt.toNat (fun _ => v.toInt8.toInt32)).symm ?_
      have H := zdown (P := fun k => Z X MX11_fill (4, 210, h.2.1, h.2.2) (zr X h m (sMw (sThrow S 0) p.toInt.toNat k (fun _ => v.toInt8.toInt32))) 41 [some (.ref m), some (.int p), some (.int (nI n)), some (.int v), some (.int (nI k))] [.int (nI n), .int (nI k)] (zX (zr X h m (sMw (sThrow S 0) p.toInt.toNat n (fun _ => v.toInt8.toInt32))) (some (.int 1)))) n (fun k hk ih => ?_) 0 (Nat.zero_le _)
      · exact H
      refine z_br rfl rfl (fun e => ?_) (fun e => ?_) <;> (try dsimp only at e)
      · rw [n_le (by omega) (by omega)] at e
        have : k = n := by omega
        subst this
        refine z_go 90 rfl ?_
        exact z_zret rfl rfl rfl ⟨rfl, rfl⟩
      · rw [n_le (by omega) (by omega)] at e
        obtain ⟨a, rfl, ha, ha2⟩ := sFw_ok hq (by omega)
        rw [i_nI ha2, Int.toNat_natCast] at ih ⊢
        refine z_go 90 rfl ?_
        refine z_get zr_o rfl rfl rfl rfl ?_
        refine z_go 90 rfl ?_
        rw [n_add]
        refine r_st3 (a + k) (i_nI (by omega)) (by omega) rfl ?_
        refine z_go 90 rfl ?_
        rw [show nI k + (1 : Int32) = nI (k + 1) from n_succ k]
        refine z_eqS (sMw_s _ _ _ _ ?_) (ih (by omega))
        exact b_idem _
/-- copies -/
def sMv (S : zS) (a n : Nat) : zS := zV S 29 (fun i => if i < n then S 3 (a + i) else S 29 i)
def sCopied (S : zS) (p q : Int32) (n : Nat) : zS := sMw (sMv S q.toInt.toNat n) p.toInt.toNat n (fun i => S 3 (q.toInt.toNat + i))
def sOnto (p q w : Int32) (n : Nat) : Prop := w = 0 ∧ 0 < n ∧ p.toInt - q.toInt < n ∧ q.toInt - p.toInt < n
noncomputable def sCopies (S : zS) (p q w : Int32) (n : Nat) : Int32 × zS := zif (sOnto p q w n) (0, sTells S 13 p.toInt p (nI n) 1) (match sFw S q 0 n with
  | some _ => (0, (sRight S q 0 n (nI n) 0).2)
  | none => match sFw S p 0 n with
    | some _ => (0, (sRight S p 0 n (nI n) 1).2)
    | none => (1, sCopied S p q n))
theorem rc_copies2 (G : zG X) (I : sInv S cc) (p q w : Int32) (n : Nat) (hn : n ≤ 8193) (no : ¬ sOnto p q w n) (A : Int64) : Z X MX11_copies (4, 210, h.2.1, h.2.2) (zr X h m S) 56 [some (.ref m), some (.int p), some (.int q), some (.int (nI n)), some (.int w), some (.long A), none, none] [.int 0, .int (nI n), .int (nI n), .int 0, .long q.toInt64, .ref m] (zX (zr X h m (sCopies S p q w n).2) (some (.int (sCopies S p q w n).1))) := by
  have N2 := I.2.1.2.1
  have hS := zif_neg (a := ((0 : Int32), sTells S 13 p.toInt p (nI n) 1)) (b := (match sFw S q 0 n with
    | some _ => (0, (sRight S q 0 n (nI n) 0).2)
    | none => match sFw S p 0 n with
      | some _ => (0, (sRight S p 0 n (nI n) 1).2)
      | none => (1, sCopied S p q n))) no
  rw [show sCopies S p q w n = _ from hS]
  refine z_cV zr_o (rc_right G I q 0 n (nI n) 0 (Or.inl rfl) (by omega) (by omega)) KX11_right IX11_right VX11_right rfl rfl rfl PX11_right rfl rfl rfl rfl ?_
  refine z_go 90 rfl ?_
  cases hq : sFw S q 0 n with
  | some k =>
    have hr := sRight_s (many := nI n) (wr := 0) hq
    rw [hr]
    refine z_br rfl rfl (fun _ => ?_) (fun c => absurd c (by first | decide | (dsimp only; decide)))
    refine z_go 90 rfl ?_
    exact z_zret rfl rfl rfl ⟨rfl, rfl⟩
  | none =>
    rw [sRight_n (many := nI n) (wr := 0) hq]
    refine z_br rfl rfl (fun c => absurd c (by first | decide | (dsimp only; decide))) (fun _ => ?_)
    refine z_go 90 rfl ?_
    refine z_cV zr_o (rc_right G I p 0 n (nI n) 1 (Or.inr rfl) (by omega) (by omega)) KX11_right IX11_right VX11_right rfl rfl rfl PX11_right rfl rfl rfl rfl ?_
    refine z_go 90 rfl ?_
    cases hp : sFw S p 0 n with
    | some k =>
      have hr := sRight_s (many := nI n) (wr := 1) hp
      rw [hr]
      refine z_br rfl rfl (fun c => absurd c (by first | decide | (dsimp only; decide))) (fun _ => ?_)
      refine z_go 90 rfl ?_
      exact z_zret rfl rfl rfl ⟨rfl, rfl⟩
    | none =>
      rw [sRight_n (many := nI n) (wr := 1) hp]
      refine z_br rfl rfl (fun _ => ?_) (fun c => absurd c (by first | decide | (dsimp only; decide)))
      refine z_go 90 rfl ?_
      have H2 := zdown (P := fun k => Z X MX11_copies (4, 210, h.2.1, h.2.2) (zr X h m (sMw (sMv S q.toInt.toNat n) p.toInt.toNat k (fun i => S 3 (q.toInt.toNat + i)))) 114 [some (.ref m), some (.int p), some (.int q), some (.int (nI n)), some (.int w), some (.long A), none, some (.int (nI k))] [.int (nI n), .int (nI k)] (zX (zr X h m (sCopied S p q n)) (some (.int 1)))) n (fun k hk ih => ?_) 0 (Nat.zero_le _)
      · have H := zdown (P := fun k => Z X MX11_copies (4, 210, h.2.1, h.2.2) (zr X h m (sMv S q.toInt.toNat k)) 83 [some (.ref m), some (.int p), some (.int q), some (.int (nI n)), some (.int w), some (.long A), none, some (.int (nI k))] [.int (nI n), .int (nI k)] (zX (zr X h m (sCopied S p q n)) (some (.int 1)))) n (fun k hk ih => ?_) 0 (Nat.zero_le _)
        · refine z_eqS ?_ H
          unfold sMv
          rw [show (fun i => if i < 0 then S 3 (q.toInt.toNat + i) else S 29 i) = S 29 from funext fun i => if_neg (by omega)]
          exact (zV_same S 29).symm
        refine z_br rfl rfl (fun e => ?_) (fun e => ?_) <;> (try dsimp only at e)
        · rw [n_le (by omega) (by omega)] at e
          have : k = n := by omega
          subst this
          refine z_go 90 rfl ?_
          refine z_eqS (sMw_0 (sMv S q.toInt.toNat k) p.toInt.toNat (fun i => S 3 (q.toInt.toNat + i))).symm ?_
          exact H2
        · rw [n_le (by omega) (by omega)] at e
          obtain ⟨a, rfl, ha, ha2⟩ := sFw_ok hq (by omega)
          rw [i_nI ha2, Int.toNat_natCast] at ih ⊢
          refine z_go 90 rfl ?_
          refine z_get zr_o rfl rfl rfl rfl ?_
          refine z_go 90 rfl ?_
          refine z_get zr_o rfl rfl rfl rfl ?_
          refine z_go 90 rfl ?_
          rw [n_add]
          refine r_lv3 (a + k) (show S 3 (a + k) = S 3 (a + k) from rfl) (i_nI (by omega)) (by omega) rfl ?_
          refine z_go 90 rfl ?_
          refine r_st29 k (i_nI (by omega)) (by omega) rfl ?_
          refine z_go 90 rfl ?_
          rw [show nI k + (1 : Int32) = nI (k + 1) from n_succ k]
          refine z_eqS ?_ (ih (by omega))
          unfold sMv
          rw [zV_V, I.2.2.2.2.2.2.2.1]
          refine congrArg (zV S 29) (funext fun i => ?_)
          show (if i = k then S 3 (a + k) else if i < k then S 3 (a + i) else S 29 i) = if i < k + 1 then S 3 (a + i) else S 29 i
          by_cases c1 : i = k
          · rw [if_pos c1, if_pos (show i < k + 1 by omega), c1]
          · rw [if_neg c1]
            by_cases c2 : i < k
            · rw [if_pos c2, if_pos (show i < k + 1 by omega)]
            · rw [if_neg c2, if_neg (show ¬ i < k + 1 by omega)]
      refine z_br rfl rfl (fun e => ?_) (fun e => ?_) <;> (try dsimp only at e)
      · rw [n_le (by omega) (by omega)] at e
        have : k = n := by omega
        subst this
        refine z_go 90 rfl ?_
        exact z_zret rfl rfl rfl ⟨rfl, rfl⟩
      · rw [n_le (by omega) (by omega)] at e
        obtain ⟨a, rfl, ha, ha2⟩ := sFw_ok hp (by omega)
        rw [i_nI ha2, Int.toNat_natCast] at ih ⊢
        refine z_go 90 rfl ?_
        refine z_get zr_o rfl rfl rfl rfl ?_
        refine z_go 90 rfl ?_
        rw [n_add]
        refine z_get zr_o rfl rfl rfl rfl ?_
        refine z_go 90 rfl ?_
        refine r_lv29 k (show (if k < n then S 3 (q.toInt.toNat + k) else S 29 k) = S 3 (q.toInt.toNat + k) from if_pos (by omega)) (i_nI (by omega)) (by omega) rfl ?_
        refine z_go 90 rfl ?_
        refine r_st3 (a + k) (i_nI (by omega)) (by omega) rfl ?_
        refine z_go 90 rfl ?_
        rw [show nI k + (1 : Int32) = nI (k + 1) from n_succ k]
        refine z_eqS (sMw_s _ _ _ _ ?_) (ih (by omega))
        exact I.2.2.2.2.2.2.2.1 _
theorem rc_copies (G : zG X) (I : sInv S cc) (p q w : Int32) (n : Nat) (hn : n ≤ 8193) : ZM X MX11_copies 4 210 [.ref m, .int p, .int q, .int (nI n), .int w] (zr X h m S) (zX (zr X h m (sCopies S p q w n).2) (some (.int (sCopies S p q w n).1))) := by
  have rp := i_rng p
  have rq := i_rng q
  have lp := l_i p
  have lq := l_i q
  have ln := l_nI (n := n) (by omega)
  have main : ∀ A : Int64, (A.toInt = p.toInt - q.toInt ∧ q.toInt < p.toInt ∨ A.toInt = q.toInt - p.toInt ∧ p.toInt ≤ q.toInt) → Z X MX11_copies (4, 210, h.2.1, h.2.2) (zr X h m S) 22 [some (.ref m), some (.int p), some (.int q), some (.int (nI n)), some (.int w), some (.long A), none, none] [.int w] (zX (zr X h m (sCopies S p q w n).2) (some (.int (sCopies S p q w n).1))) := by
    intro A hA
    refine z_br rfl rfl (fun c => ?_) (fun c => ?_) <;> (try dsimp only at c)
    · refine z_go 90 rfl ?_
      exact rc_copies2 G I p q w n hn (fun z => c z.1) A
    refine z_go 90 rfl ?_
    refine z_br rfl rfl (fun d => ?_) (fun d => ?_) <;> (try dsimp only at d)
    · rw [show (0 : Int32) = nI 0 from rfl, n_le (by omega) (by omega)] at d
      refine z_go 90 rfl ?_
      exact rc_copies2 G I p q w n hn (fun z => by have := z.2.1; omega) A
    rw [show (0 : Int32) = nI 0 from rfl, n_le (by omega) (by omega)] at d
    refine z_go 90 rfl ?_
    refine z_br rfl rfl (fun e => ?_) (fun e => ?_) <;> (try dsimp only at e)
    · rw [lc_ge, ln] at e
      refine z_go 90 rfl ?_
      exact rc_copies2 G I p q w n hn (fun z => by have h1 := z.2.2.1; have h2 := z.2.2.2; omega) A
    rw [lc_ge, ln] at e
    refine z_go 90 rfl ?_
    refine z_cV zr_o (rc_tells G I 13 _ p.toInt p (nI n) 1 lp (by apply i_ext; rw [l_32, lp, Int.bmod_def]; omega) (Or.inr rfl)) KX11_tells IX11_tells VX11_tells rfl rfl rfl PX11_tells rfl rfl rfl rfl ?_
    refine z_go 90 rfl ?_
    refine z_zret rfl rfl rfl ?_
    unfold sCopies
    rw [zif_pos (p := sOnto p q w n) ⟨c, by omega, by omega, by omega⟩]
    exact ⟨rfl, rfl⟩
  refine zm_of_z G KX11_copies rfl rfl ?_
  refine z_go 90 rfl ?_
  refine z_br rfl rfl (fun c => ?_) (fun c => ?_) <;> (try dsimp only at c)
  · rw [i_le] at c
    refine z_go 90 rfl ?_
    exact main _ (Or.inr ⟨by rw [l_sub] <;> omega, c⟩)
  · rw [i_le] at c
    refine z_go 90 rfl ?_
    exact main _ (Or.inl ⟨by rw [l_sub] <;> omega, by omega⟩)
theorem sCopies_b {p q w : Int32} {n : Nat} : (sCopies S p q w n).1 = 0 ∨ (sCopies S p q w n).1 = 1 := by
  unfold sCopies
  by_cases c : sOnto p q w n
  · rw [zif_pos c]; exact Or.inl rfl
  · rw [zif_neg c]
    split
    · exact Or.inl rfl
    · split
      · exact Or.inl rfl
      · exact Or.inr rfl
noncomputable def sCopy (S : zS) (p q r w : Int32) : Int32 × zS := zif (sNoA S r) (0, sThrow S 1) (sCopies (sThrow S 0) p q w r.toInt.toNat)
theorem rc_copy (G : zG X) (I : sInv S cc) (p q r w : Int32) : ZM X MX11_copy 5 240 [.ref m, .int p, .int q, .int r, .int w] (zr X h m S) (zX (zr X h m (sCopy S p q r w).2) (some (.int (sCopy S p q r w).1))) := by
  have N2 := I.2.1.2.1
  refine zm_of_z G KX11_copy rfl rfl ?_
  refine z_go 90 rfl ?_
  refine z_cV zr_o (rc_noAmount G I r) KX11_noAmount IX11_noAmount VX11_noAmount rfl rfl rfl PX11_noAmount rfl rfl rfl rfl ?_
  refine z_go 90 rfl ?_
  refine z_ite (p := sNoA S r) (fun nv => ?_) (fun nv => ?_)
  · rw [zif_pos nv]
    refine z_br rfl rfl (fun c => absurd c (by first | decide | (dsimp only; decide))) (fun _ => ?_)
    refine z_go 90 rfl ?_
    refine rr_yesN G (by decide) rfl rfl rfl rfl rfl ?_
    refine z_go 90 rfl ?_
    refine z_zret rfl rfl rfl ?_
    unfold sCopy
    rw [zif_pos nv]
    exact ⟨rfl, rfl⟩
  · rw [zif_neg nv]
    refine z_br rfl rfl (fun _ => ?_) (fun c => absurd c (by first | decide | (dsimp only; decide)))
    refine z_go 90 rfl ?_
    refine rr_noN G rfl rfl rfl rfl rfl ?_
    have hS := zif_neg (a := ((0 : Int32), sThrow S 1)) (b := sCopies (sThrow S 0) p q w r.toInt.toNat) nv
    rw [show sCopy S p q r w = _ from hS]
    unfold sNoA at nv
    obtain ⟨n, rfl, hn⟩ := i_nat (x := r) (by omega)
    rw [i_nI hn] at nv ⊢
    rw [Int.toNat_natCast]
    refine z_go 90 rfl ?_
    refine z_cV zr_o (rc_copies G (sInv_T I 0 (by decide)) p q w n (by omega)) KX11_copies IX11_copies VX11_copies rfl rfl rfl PX11_copies rfl rfl rfl rfl ?_
    refine z_go 90 rfl ?_
    rcases sCopies_b (S := sThrow S 0) (p := p) (q := q) (w := w) (n := n) with e | e
    · refine z_br rfl rfl (fun c => ?_) (fun c => ?_) <;> (try dsimp only at c)
      · refine z_go 90 rfl ?_
        exact z_zret rfl rfl rfl ⟨rfl, by rw [e]⟩
      · exact absurd e c
    · refine z_br rfl rfl (fun c => ?_) (fun c => ?_) <;> (try dsimp only at c)
      · rw [e] at c; exact absurd c (by decide)
      · refine z_go 90 rfl ?_
        exact z_zret rfl rfl rfl ⟨rfl, by rw [e]⟩
end ZCO
