section ZPK
variable {X : zCx} {h : zHp} {m : Nat} {S : zS} {cc : Nat}
def sBf (w : Nat) : Nat := match w with
  | 0 => 15
  | 1 => 16
  | 2 => 17
  | 3 => 18
  | 4 => 19
  | 5 => 20
  | 6 => 21
  | _ => 22
noncomputable def sBlock (S : zS) (p q : Int32) : Int32 × zS := zif (p.toInt < 0 ∨ (sN S 23 0 : Int) ≤ p.toInt) (0, sThrow S 1) (zif (q.toInt < 0 ∨ 7 < q.toInt) (0, sThrow S 2) (S (sBf q.toInt.toNat) p.toInt.toNat, sThrow S 0))
theorem rc_block (G : zG X) (I : sInv S cc) (p q : Int32) : ZM X MX11_block 1 127 [.ref m, .int p, .int q] (zr X h m S) (zX (zr X h m (sBlock S p q).2) (some (.int (sBlock S p q).1))) := by
  obtain ⟨I0, In, Ig, If, Ib, Iq, Ih, Im, c1, c2, c3, c4⟩ := id I
  have t0 : (0 : Int32).toInt = 0 := rfl
  have t7 : (7 : Int32).toInt = 7 := rfl
  have t23 := i_nI (n := sN S 23 0) (by omega)
  have bad : (p.toInt < 0 ∨ (sN S 23 0 : Int) ≤ p.toInt) → Z X MX11_block (1, 127, h.2.1, h.2.2) (zr X h m S) 32 [some (.ref m), some (.int p), some (.int q)] [.int 1, .ref m] (zX (zr X h m (sBlock S p q).2) (some (.int (sBlock S p q).1))) := by
    intro hb
    refine rr_yes G (by decide) rfl rfl rfl rfl rfl ?_
    refine z_go 90 rfl ?_
    refine z_iret rfl rfl ?_
    unfold sBlock
    rw [zif_pos hb]
    exact ⟨rfl, rfl⟩
  have bad2 : ¬ (p.toInt < 0 ∨ (sN S 23 0 : Int) ≤ p.toInt) → (q.toInt < 0 ∨ 7 < q.toInt) → Z X MX11_block (1, 127, h.2.1, h.2.2) (zr X h m S) 32 [some (.ref m), some (.int p), some (.int q)] [.int 2, .ref m] (zX (zr X h m (sBlock S p q).2) (some (.int (sBlock S p q).1))) := by
    intro ha hb
    refine rr_yes G (by decide) rfl rfl rfl rfl rfl ?_
    refine z_go 90 rfl ?_
    refine z_iret rfl rfl ?_
    unfold sBlock
    rw [zif_neg ha, zif_pos hb]
    exact ⟨rfl, rfl⟩
  refine zm_of_z G KX11_block rfl rfl ?_
  refine z_go 90 rfl ?_
  refine z_br rfl rfl (fun c => ?_) (fun c => ?_) <;> (try dsimp only at c)
  · rw [i_lt] at c
    refine z_go 90 rfl ?_
    exact bad (by omega)
  rw [i_lt] at c
  refine z_go 90 rfl ?_
  refine r_v23 (sN_eq I0 rfl) rfl rfl rfl ?_
  refine z_go 90 rfl ?_
  refine z_br rfl rfl (fun d => ?_) (fun d => ?_) <;> (try dsimp only at d)
  case _ =>
    rw [i_lt] at d
    refine z_go 90 rfl ?_
    refine z_br rfl rfl (fun e => ?_) (fun e => ?_) <;> (try dsimp only at e)
    · rw [i_lt] at e
      refine z_go 90 rfl ?_
      exact bad2 (by omega) (by omega)
    rw [i_lt] at e
    refine z_go 90 rfl ?_
    refine z_br rfl rfl (fun k => ?_) (fun k => ?_) <;> (try dsimp only at k)
    case _ =>
      rw [i_le] at k
      refine z_go 90 rfl ?_
      refine rr_no G rfl rfl rfl rfl rfl ?_
      have hS : sBlock S p q = (S (sBf q.toInt.toNat) p.toInt.toNat, sThrow S 0) := by unfold sBlock; rw [zif_neg (by omega), zif_neg (by omega)]
      rw [hS]
      obtain ⟨a, rfl, ha⟩ := i_nat (x := p) (by omega)
      obtain ⟨b, rfl, hb⟩ := i_nat (x := q) (by omega)
      rw [i_nI ha] at c d ⊢
      rw [i_nI hb] at e k ⊢
      rw [Int.toNat_natCast, Int.toNat_natCast]
      refine z_go 90 rfl ?_
      have hcase : b = 0 ∨ b = 1 ∨ b = 2 ∨ b = 3 ∨ b = 4 ∨ b = 5 ∨ b = 6 ∨ b = 7 := by omega
      rcases hcase with rfl | rfl | rfl | rfl | rfl | rfl | rfl | rfl
      · refine z_swI 84 0 rfl rfl (by decide) (by decide) rfl rfl ?_
        refine z_go 90 rfl ?_
        refine z_get zr_o rfl rfl rfl rfl ?_
        refine z_go 90 rfl ?_
        refine r_ld15 a (i_nI (by omega)) (by omega) rfl ?_
        refine z_go 90 rfl ?_
        exact z_iret rfl rfl ⟨rfl, rfl⟩
      · refine z_swI 91 1 rfl rfl (by decide) (by decide) rfl rfl ?_
        refine z_go 90 rfl ?_
        refine z_get zr_o rfl rfl rfl rfl ?_
        refine z_go 90 rfl ?_
        refine r_ld16 a (i_nI (by omega)) (by omega) rfl ?_
        refine z_go 90 rfl ?_
        exact z_iret rfl rfl ⟨rfl, rfl⟩
      · refine z_swI 98 2 rfl rfl (by decide) (by decide) rfl rfl ?_
        refine z_go 90 rfl ?_
        refine z_get zr_o rfl rfl rfl rfl ?_
        refine z_go 90 rfl ?_
        refine r_ld17 a (i_nI (by omega)) (by omega) rfl ?_
        refine z_go 90 rfl ?_
        exact z_iret rfl rfl ⟨rfl, rfl⟩
      · refine z_swI 105 3 rfl rfl (by decide) (by decide) rfl rfl ?_
        refine z_go 90 rfl ?_
        refine z_get zr_o rfl rfl rfl rfl ?_
        refine z_go 90 rfl ?_
        refine r_ld18 a (i_nI (by omega)) (by omega) rfl ?_
        refine z_go 90 rfl ?_
        exact z_iret rfl rfl ⟨rfl, rfl⟩
      · refine z_swI 112 4 rfl rfl (by decide) (by decide) rfl rfl ?_
        refine z_go 90 rfl ?_
        refine z_get zr_o rfl rfl rfl rfl ?_
        refine z_go 90 rfl ?_
        refine r_ld19 a (i_nI (by omega)) (by omega) rfl ?_
        refine z_go 90 rfl ?_
        exact z_iret rfl rfl ⟨rfl, rfl⟩
      · refine z_swI 119 5 rfl rfl (by decide) (by decide) rfl rfl ?_
        refine z_go 90 rfl ?_
        refine z_get zr_o rfl rfl rfl rfl ?_
        refine z_go 90 rfl ?_
        refine r_ld20 a (i_nI (by omega)) (by omega) rfl ?_
        refine z_go 90 rfl ?_
        exact z_iret rfl rfl ⟨rfl, rfl⟩
      · refine z_swI 126 6 rfl rfl (by decide) (by decide) rfl rfl ?_
        refine z_go 90 rfl ?_
        refine z_get zr_o rfl rfl rfl rfl ?_
        refine z_go 90 rfl ?_
        refine r_ld21 a (i_nI (by omega)) (by omega) rfl ?_
        refine z_go 90 rfl ?_
        exact z_iret rfl rfl ⟨rfl, rfl⟩
      · refine z_swO 133 rfl (Or.inr (by decide)) rfl ?_
        refine z_go 90 rfl ?_
        refine z_get zr_o rfl rfl rfl rfl ?_
        refine z_go 90 rfl ?_
        refine r_ld22 a (i_nI (by omega)) (by omega) rfl ?_
        refine z_go 90 rfl ?_
        exact z_iret rfl rfl ⟨rfl, rfl⟩
    · rw [i_le] at k
      refine z_go 90 rfl ?_
      exact bad2 (by omega) (by omega)
  · rw [i_lt] at d
    refine z_go 90 rfl ?_
    exact bad (by omega)
noncomputable def sShadow (S : zS) (p : Int32) : Int32 × zS := zif (p.toInt < 0 ∨ (sN S 1 0 / 8 : Nat) ≤ p.toInt) (0, sThrow S 1) (S 4 p.toInt.toNat, sThrow S 0)
theorem rc_shadow (G : zG X) (I : sInv S cc) (p : Int32) : ZM X MX11_shadow 1 127 [.ref m, .int p] (zr X h m S) (zX (zr X h m (sShadow S p).2) (some (.int (sShadow S p).1))) := by
  obtain ⟨I0, In, Ig, If, Ib, Iq, Ih, Im, c1, c2, c3, c4⟩ := id I
  have N2 := In.2.1
  have t0 : (0 : Int32).toInt = 0 := rfl
  have tl := i_nI (n := sN S 1 0 / 8) (by omega)
  have bad : (p.toInt < 0 ∨ (sN S 1 0 / 8 : Nat) ≤ p.toInt) → Z X MX11_shadow (1, 127, h.2.1, h.2.2) (zr X h m S) 21 [some (.ref m), some (.int p)] [.int 1, .ref m] (zX (zr X h m (sShadow S p).2) (some (.int (sShadow S p).1))) := by
    intro hb
    refine rr_yes G (by decide) rfl rfl rfl rfl rfl ?_
    refine z_go 90 rfl ?_
    refine z_iret rfl rfl ?_
    unfold sShadow
    rw [zif_pos hb]
    exact ⟨rfl, rfl⟩
  refine zm_of_z G KX11_shadow rfl rfl ?_
  refine z_go 90 rfl ?_
  refine z_br rfl rfl (fun c => ?_) (fun c => ?_) <;> (try dsimp only at c)
  · rw [i_lt] at c
    refine z_go 90 rfl ?_
    exact bad (by omega)
  rw [i_lt] at c
  refine z_go 90 rfl ?_
  refine r_v1 (sN_eq I0 rfl) rfl rfl rfl ?_
  refine z_go 90 rfl ?_
  refine z_div rfl (by decide) ?_
  refine z_go 90 rfl ?_
  rw [show nI (sN S 1 0) / (8 : Int32) = nI (sN S 1 0 / 8) from n_div (b := 8) (by omega) (by omega) (by omega)]
  refine z_br rfl rfl (fun d => ?_) (fun d => ?_) <;> (try dsimp only at d)
  case _ =>
    rw [i_lt] at d
    refine z_go 90 rfl ?_
    refine rr_no G rfl rfl rfl rfl rfl ?_
    have hS : sShadow S p = (S 4 p.toInt.toNat, sThrow S 0) := by unfold sShadow; rw [zif_neg (by omega)]
    rw [hS]
    obtain ⟨a, rfl, ha⟩ := i_nat (x := p) (by omega)
    rw [i_nI ha] at c d ⊢
    rw [Int.toNat_natCast]
    refine z_go 90 rfl ?_
    refine z_get zr_o rfl rfl rfl rfl ?_
    refine z_go 90 rfl ?_
    refine r_ld4 a (i_nI (by omega)) (by omega) rfl ?_
    refine z_go 90 rfl ?_
    exact z_iret rfl rfl ⟨rfl, rfl⟩
  · rw [i_lt] at d
    refine z_go 90 rfl ?_
    exact bad (by omega)
noncomputable def sPeek (S : zS) (p : Int32) : Int32 × zS := zif (p.toInt < 0 ∨ (sN S 1 0 : Int) ≤ p.toInt) (0, sThrow S 1) (S 3 p.toInt.toNat &&& 255, sThrow S 0)
theorem rc_peek (G : zG X) (I : sInv S cc) (p : Int32) : ZM X MX11_peek 1 127 [.ref m, .int p] (zr X h m S) (zX (zr X h m (sPeek S p).2) (some (.int (sPeek S p).1))) := by
  obtain ⟨I0, In, Ig, If, Ib, Iq, Ih, Im, c1, c2, c3, c4⟩ := id I
  have N2 := In.2.1
  have t0 : (0 : Int32).toInt = 0 := rfl
  have tl := i_nI (n := sN S 1 0) (by omega)
  have bad : (p.toInt < 0 ∨ (sN S 1 0 : Int) ≤ p.toInt) → Z X MX11_peek (1, 127, h.2.1, h.2.2) (zr X h m S) 18 [some (.ref m), some (.int p)] [.int 1, .ref m] (zX (zr X h m (sPeek S p).2) (some (.int (sPeek S p).1))) := by
    intro hb
    refine rr_yes G (by decide) rfl rfl rfl rfl rfl ?_
    refine z_go 90 rfl ?_
    refine z_iret rfl rfl ?_
    unfold sPeek
    rw [zif_pos hb]
    exact ⟨rfl, rfl⟩
  refine zm_of_z G KX11_peek rfl rfl ?_
  refine z_go 90 rfl ?_
  refine z_br rfl rfl (fun c => ?_) (fun c => ?_) <;> (try dsimp only at c)
  · rw [i_lt] at c
    refine z_go 90 rfl ?_
    exact bad (by omega)
  rw [i_lt] at c
  refine z_go 90 rfl ?_
  refine r_v1 (sN_eq I0 rfl) rfl rfl rfl ?_
  refine z_go 90 rfl ?_
  refine z_br rfl rfl (fun d => ?_) (fun d => ?_) <;> (try dsimp only at d)
  case _ =>
    rw [i_lt] at d
    refine z_go 90 rfl ?_
    refine rr_no G rfl rfl rfl rfl rfl ?_
    have hS : sPeek S p = (S 3 p.toInt.toNat &&& 255, sThrow S 0) := by unfold sPeek; rw [zif_neg (by omega)]
    rw [hS]
    obtain ⟨a, rfl, ha⟩ := i_nat (x := p) (by omega)
    rw [i_nI ha] at c d ⊢
    rw [Int.toNat_natCast]
    refine z_go 90 rfl ?_
    refine z_get zr_o rfl rfl rfl rfl ?_
    refine z_go 90 rfl ?_
    refine r_ld3 a (i_nI (by omega)) (by omega) rfl ?_
    refine z_go 90 rfl ?_
    exact z_iret rfl rfl ⟨rfl, rfl⟩
  · rw [i_lt] at d
    refine z_go 90 rfl ?_
    exact bad (by omega)
noncomputable def sHeld (S : zS) (p : Int32) : Int32 × zS := zif (p.toInt < 0 ∨ (sN S 25 0 : Int) ≤ p.toInt) (0, sThrow S 1) (S 24 p.toInt.toNat, sThrow S 0)
theorem rc_held (G : zG X) (I : sInv S cc) (p : Int32) : ZM X MX11_held 1 127 [.ref m, .int p] (zr X h m S) (zX (zr X h m (sHeld S p).2) (some (.int (sHeld S p).1))) := by
  obtain ⟨I0, In, Ig, If, Ib, Iq, Ih, Im, c1, c2, c3, c4⟩ := id I
  have N2 := In.2.1
  have t0 : (0 : Int32).toInt = 0 := rfl
  have tl := i_nI (n := sN S 25 0) (by omega)
  have bad : (p.toInt < 0 ∨ (sN S 25 0 : Int) ≤ p.toInt) → Z X MX11_held (1, 127, h.2.1, h.2.2) (zr X h m S) 18 [some (.ref m), some (.int p)] [.int 1, .ref m] (zX (zr X h m (sHeld S p).2) (some (.int (sHeld S p).1))) := by
    intro hb
    refine rr_yes G (by decide) rfl rfl rfl rfl rfl ?_
    refine z_go 90 rfl ?_
    refine z_iret rfl rfl ?_
    unfold sHeld
    rw [zif_pos hb]
    exact ⟨rfl, rfl⟩
  refine zm_of_z G KX11_held rfl rfl ?_
  refine z_go 90 rfl ?_
  refine z_br rfl rfl (fun c => ?_) (fun c => ?_) <;> (try dsimp only at c)
  · rw [i_lt] at c
    refine z_go 90 rfl ?_
    exact bad (by omega)
  rw [i_lt] at c
  refine z_go 90 rfl ?_
  refine r_v25 (sN_eq I0 rfl) rfl rfl rfl ?_
  refine z_go 90 rfl ?_
  refine z_br rfl rfl (fun d => ?_) (fun d => ?_) <;> (try dsimp only at d)
  case _ =>
    rw [i_lt] at d
    refine z_go 90 rfl ?_
    refine rr_no G rfl rfl rfl rfl rfl ?_
    have hS : sHeld S p = (S 24 p.toInt.toNat, sThrow S 0) := by unfold sHeld; rw [zif_neg (by omega)]
    rw [hS]
    obtain ⟨a, rfl, ha⟩ := i_nat (x := p) (by omega)
    rw [i_nI ha] at c d ⊢
    rw [Int.toNat_natCast]
    refine z_go 90 rfl ?_
    refine z_get zr_o rfl rfl rfl rfl ?_
    refine z_go 90 rfl ?_
    refine r_ld24 a (i_nI (by omega)) (by omega) rfl ?_
    refine z_go 90 rfl ?_
    exact z_iret rfl rfl ⟨rfl, rfl⟩
  · rw [i_lt] at d
    refine z_go 90 rfl ?_
    exact bad (by omega)
end ZPK
