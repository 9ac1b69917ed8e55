/-! the reference's blocks -/
theorem sN_V (S : zS) (k i : Nat) (g : Nat → Int32) : sN (zV S k g) k i = (g i).toInt.toNat := by unfold sN; rw [zV_at]
theorem sN_W (S : zS) {k j : Nat} (i : Nat) (g : Nat → Int32) (c : j ≠ k) : sN (zV S k g) j i = sN S j i := by unfold sN; rw [zV_ne _ _ c]
theorem sN_u (S : zS) (k j i : Nat) (x : Int32) : sN (zV S k (upd (S k) j x)) k i = if i = j then x.toInt.toNat else sN S k i := by
  rw [sN_V]
  unfold upd
  split <;> rfl
theorem sI0_paint {S : zS} (I : sI0 S) {a b : Nat} {v : Int32} (hv : 0 ≤ v.toInt ∧ v.toInt < 10000) : sI0 (sPaint S a b v) := by
  refine sI0_V I fun _ i => ?_
  split
  · exact hv
  · exact I 4 i rfl
theorem sI0_open {S : zS} (I : sI0 S) {a n : Nat} (hn : a + n ≤ 8192) : sI0 (sOpen S a n) := by
  refine sI0_V I fun _ i => ?_
  split
  · split
    · decide
    · rw [i_nI (by omega)]; omega
  · exact I 4 i rfl
theorem sIh_paint {S : zS} (I : sIh S) {a b : Nat} {v : Int32} (h1 : v.toInt.toNat ≤ 255) (h2 : v.toInt.toNat = 0 ∨ 8 ≤ v.toInt.toNat) : sIh (sPaint S a b v) := by
  intro g
  have e : sN (sPaint S a b v) 4 g = if a / 8 ≤ g ∧ g < (b + 7) / 8 then v.toInt.toNat else sN S 4 g := by
    unfold sPaint
    rw [sN_V]
    split <;> rfl
  have e1 : sN (sPaint S a b v) 1 0 = sN S 1 0 := rfl
  rw [e, e1]
  have := I g
  split <;> omega
theorem sIh_open {S : zS} (I : sIh S) {a n : Nat} (h1 : a % 8 = 0) (h2 : a + n + 8 ≤ sN S 1 0) (h3 : sN S 1 0 % 8 = 0) (h4 : sN S 1 0 ≤ 8192) : sIh (sOpen S a n) := by
  intro g
  have e : sN (sOpen S a n) 4 g = if a / 8 ≤ g ∧ 8 * g < a + n then (if 8 * g + 8 ≤ a + n then 0 else a + n - 8 * g) else sN S 4 g := by
    unfold sOpen
    rw [sN_V]
    split
    · split
      · rfl
      · rw [i_nI (by omega)]; rfl
    · rfl
  have e1 : sN (sOpen S a n) 1 0 = sN S 1 0 := rfl
  rw [e, e1]
  have := I g
  split
  · split <;> omega
  · omega
def sFree (S : zS) (a n : Nat) : Prop := ∀ k, k < sN S 23 0 → sN S 18 k ≠ 2 → ¬ (a < sN S 19 k + sN S 20 k ∧ sN S 19 k < a + n)
def sOkP (S : zS) (n i : Nat) : Prop := sN S 1 0 / 4 + 16 * i + n ≤ sN S 1 0 ∧ sFree S (sN S 1 0 / 4 + 16 * i) n
noncomputable def sPlace (S : zS) (n : Nat) : Option Nat := (zFst (sOkP S n) (sN S 1 0)).map (fun i => sN S 1 0 / 4 + 16 * i)
def sOld (S : zS) : zS := sPaint (zV (zV (zV S 25 (fun _ => nI (sN S 25 0 - 1))) 24 (fun i => if i < sN S 25 0 - 1 then S 24 (i + 1) else S 24 i)) 18 (upd (S 18) (sN S 24 0) 2)) (sN S 19 (sN S 24 0)) (sN S 19 (sN S 24 0) + sN S 20 (sN S 24 0)) 250
theorem sOld_18 (S : zS) (b : Nat) : sN (sOld S) 18 b = if b = sN S 24 0 then 2 else sN S 18 b := by
  show ((upd (S 18) (sN S 24 0) 2) b).toInt.toNat = _
  unfold upd
  split <;> rfl
theorem sOld_24 (S : zS) (i : Nat) : sN (sOld S) 24 i = if i < sN S 25 0 - 1 then sN S 24 (i + 1) else sN S 24 i := by
  show (if i < sN S 25 0 - 1 then S 24 (i + 1) else S 24 i).toInt.toNat = _
  split <;> rfl
theorem sOld_25 {S : zS} (I : sI0 S) : sN (sOld S) 25 0 = sN S 25 0 - 1 := by
  have := sN_lt I (k := 25) (i := 0) rfl
  show (nI (sN S 25 0 - 1)).toInt.toNat = _
  rw [i_nI (by omega)]
  rfl
theorem sOld_inv {S : zS} {c : Nat} (I : sInv S c) (hh : 0 < sN S 25 0) : sInv (sOld S) c := by
  obtain ⟨I0, In, Ig, If, Ib, Iq, Ih, Im, Ic⟩ := I
  have e25 := sOld_25 I0
  refine ⟨?_, In, Ig, If, ?_, ?_, ?_, Im, ?_⟩
  · refine sI0_paint (sI0_V (sI0_V (sI0_V I0 fun _ _ => ?_) fun _ i => ?_) fun _ i => ?_) (by decide)
    · have := sN_lt I0 (k := 25) (i := 0) rfl
      rw [i_nI (by omega)]; omega
    · split
      · exact I0 24 _ rfl
      · exact I0 24 _ rfl
    · unfold upd
      split
      · decide
      · exact I0 18 _ rfl
  · refine ⟨fun b hb => ?_, fun b d hb hd hne h1 h2 => ?_⟩
    · obtain ⟨g1, g2, g3, g4, g5, g6, g7, g8⟩ := Ib.1 b hb
      refine ⟨g1, g2, g3, g4, g5, g6, g7, ?_⟩
      rw [sOld_18]
      split <;> omega
    · rw [sOld_18] at h1 h2
      refine Ib.2 b d hb hd hne ?_ ?_
      · intro z; rw [z] at h1; split at h1 <;> omega
      · intro z; rw [z] at h2; split at h2 <;> omega
  · refine ⟨fun i hi => ?_, fun i j hi hj he => ?_⟩
    · rw [e25] at hi
      rw [sOld_24, if_pos hi]
      obtain ⟨g1, g2⟩ := Iq.1 (i + 1) (by omega)
      refine ⟨g1, ?_⟩
      rw [sOld_18, if_neg, g2]
      intro z
      have := Iq.2 (i + 1) 0 (by omega) hh z
      omega
    · rw [e25] at hi hj
      rw [sOld_24, sOld_24, if_pos hi, if_pos hj] at he
      have := Iq.2 (i + 1) (j + 1) (by omega) (by omega) he
      omega
  · exact sIh_paint (S := zV (zV (zV S 25 _) 24 _) 18 _) Ih (by decide) (by decide)
  · obtain ⟨c1, c2, c3, c4⟩ := Ic
    exact ⟨c1, c2, by rw [e25]; omega, c4⟩
section ZBL
variable {X : zCx} {h : zHp} {m : Nat} {S : zS} {cc : Nat}
theorem rc_isFree (G : zG X) (I : sInv S cc) (a n : Nat) (ha : a ≤ 20000) (hn : n ≤ 20000) : ZM X MX11_isFree 0 100 [.ref m, .int (nI a), .int (nI n)] (zr X h m S) (zX (zr X h m S) (some (.int (zif (sFree S a n) 1 0)))) := by
  obtain ⟨I0, In, Ig, If, Ib, Iq, Ih, Im, Ic⟩ := I
  have e23 : S 23 0 = nI (sN S 23 0) := sN_eq I0 rfl
  obtain ⟨c1, c2, c3, c4⟩ := Ic
  refine zm_of_z G KX11_isFree rfl rfl ?_
  refine z_go 90 rfl ?_
  refine r_v23 e23 rfl rfl rfl ?_
  refine z_go 90 rfl ?_
  refine zdown (P := fun k => (∀ j, j < k → sN S 18 j ≠ 2 → ¬ (a < sN S 19 j + sN S 20 j ∧ sN S 19 j < a + n)) → Z X MX11_isFree _ (zr X h m S) _ [some (.ref m), some (.int (nI a)), some (.int (nI n)), some (Value.int (nI k))] [.int (nI (sN S 23 0)), .int (nI k)] _) (sN S 23 0) (fun k hk ih hp => ?_) 0 (Nat.zero_le _) (fun j hj => by omega)
  refine z_br rfl rfl (fun c => ?_) (fun c => ?_) <;> (try dsimp only at c)
  · rw [n_le (by omega) (by omega)] at c
    refine z_go 90 rfl ?_
    exact z_zret rfl rfl rfl ⟨rfl, by rw [zif_pos (p := sFree S a n) (fun j hj => hp j (by omega))]⟩
  · rw [n_le (by omega) (by omega)] at c
    have l18 := sN_lt I0 (k := 18) (i := k) rfl
    have l19 := sN_lt I0 (k := 19) (i := k) rfl
    have l20 := sN_lt I0 (k := 20) (i := k) rfl
    have go : ((sN S 18 k ≠ 2) → ¬ (a < sN S 19 k + sN S 20 k ∧ sN S 19 k < a + n)) → Z X MX11_isFree (0, 100, (zr X h m S).2.1, (zr X h m S).2.2) (zr X h m S) 51 [some (.ref m), some (.int (nI a)), some (.int (nI n)), some (Value.int (nI k))] [] (zX (zr X h m S) (some (.int (zif (sFree S a n) 1 0)))) := by
      intro hgo
      refine z_go 90 rfl ?_
      rw [show nI k + (1 : Int32) = nI (k + 1) from n_succ k]
      refine r_v23 e23 rfl rfl rfl ?_
      refine z_go 90 rfl ?_
      refine ih (by omega) (fun j hj => ?_)
      by_cases e : j = k
      · subst e; exact hgo
      · exact hp j (by omega)
    refine z_go 90 rfl ?_
    refine z_get zr_o rfl rfl rfl rfl ?_
    refine z_go 90 rfl ?_
    refine r_lv18 k (sN_eq I0 rfl) (i_nI (by omega)) (by omega) rfl ?_
    refine z_go 90 rfl ?_
    refine z_br rfl rfl (fun d => ?_) (fun d => ?_) <;> (try dsimp only at d)
    · rw [show (2 : Int32) = nI 2 from rfl, n_eq (by omega) (by omega)] at d
      exact go (fun z => absurd d z)
    · rw [show (2 : Int32) = nI 2 from rfl, n_eq (by omega) (by omega)] at d
      refine z_go 90 rfl ?_
      refine z_get zr_o rfl rfl rfl rfl ?_
      refine z_go 90 rfl ?_
      refine r_lv19 k (sN_eq I0 rfl) (i_nI (by omega)) (by omega) rfl ?_
      refine z_go 90 rfl ?_
      refine z_get zr_o rfl rfl rfl rfl ?_
      refine z_go 90 rfl ?_
      refine r_lv20 k (sN_eq I0 rfl) (i_nI (by omega)) (by omega) rfl ?_
      refine z_go 90 rfl ?_
      rw [n_add]
      refine z_br rfl rfl (fun e => ?_) (fun e => ?_) <;> (try dsimp only at e)
      · rw [n_le (by omega) (by omega)] at e
        exact go (fun _ => by omega)
      · rw [n_le (by omega) (by omega)] at e
        refine z_go 90 rfl ?_
        refine z_get zr_o rfl rfl rfl rfl ?_
        refine z_go 90 rfl ?_
        refine r_lv19 k (sN_eq I0 rfl) (i_nI (by omega)) (by omega) rfl ?_
        refine z_go 90 rfl ?_
        rw [n_add]
        refine z_br rfl rfl (fun q => ?_) (fun q => ?_) <;> (try dsimp only at q)
        · rw [n_le (by omega) (by omega)] at q
          exact go (fun _ => by omega)
        · rw [n_le (by omega) (by omega)] at q
          refine z_go 90 rfl ?_
          exact z_zret rfl rfl rfl ⟨rfl, by rw [zif_neg (p := sFree S a n) (fun z => z k (by omega) d (by omega))]⟩
theorem rc_placeFor (G : zG X) (I : sInv S cc) (n : Nat) (hn : n ≤ 10000) : ZM X MX11_placeFor 1 127 [.ref m, .int (nI n)] (zr X h m S) (zX (zr X h m S) (some (.int (zoI (sPlace S n))))) := by
  obtain ⟨I0, In, -⟩ := id I
  have e1 : S 1 0 = nI (sN S 1 0) := sN_eq I0 rfl
  obtain ⟨N1, N2, N3, N4⟩ := In
  refine zm_of_z G KX11_placeFor rfl rfl ?_
  refine z_go 90 rfl ?_
  refine r_v1 e1 rfl rfl rfl ?_
  refine z_go 90 rfl ?_
  refine z_div rfl (by decide) ?_
  refine z_go 90 rfl ?_
  rw [show nI (sN S 1 0) / (4 : Int32) = nI (sN S 1 0 / 4) from n_div (b := 4) (by omega) (by omega) (by omega)]
  rw [n_add]
  refine r_v1 e1 rfl rfl rfl ?_
  refine z_go 90 rfl ?_
  have H := zdown (P := fun k => (∀ j, j < k → ¬ sOkP S n j) → Z X MX11_placeFor (1, 127, (zr X h m S).2.1, (zr X h m S).2.2) (zr X h m S) 14 [some (.ref m), some (.int (nI n)), some (Value.int (nI (sN S 1 0 / 4 + 16 * k)))] [.int (nI (sN S 1 0)), .int (nI (sN S 1 0 / 4 + 16 * k + n))] (zX (zr X h m S) (some (.int (zoI (sPlace S n)))))) (sN S 1 0) (fun k hk ih hp => ?_) 0 (Nat.zero_le _) (fun j hj => by omega)
  · exact H
  refine z_br rfl rfl (fun c => ?_) (fun c => ?_) <;> (try dsimp only at c)
  · rw [n_lt (by omega) (by omega)] at c
    refine z_go 90 rfl ?_
    have : sPlace S n = none := by
      unfold sPlace
      rw [zFst_none.mpr]
      · rfl
      · intro j hj z
        by_cases q : j < k
        · exact hp j q z
        · have := z.1; omega
    rw [this]
    exact z_iret rfl rfl ⟨rfl, rfl⟩
  · rw [n_lt (by omega) (by omega)] at c
    refine z_go 90 rfl ?_
    refine z_cV zr_o (rc_isFree G I (sN S 1 0 / 4 + 16 * k) n (by omega) (by omega)) KX11_isFree IX11_isFree VX11_isFree rfl rfl rfl PX11_isFree rfl rfl rfl rfl ?_
    refine z_go 90 rfl ?_
    refine z_ite (p := sFree S (sN S 1 0 / 4 + 16 * k) n) (fun q => ?_) (fun q => ?_)
    · rw [zif_pos q]
      refine z_br rfl rfl (fun c => absurd c (by first | decide | (dsimp only; decide))) (fun _ => ?_)
      refine z_go 90 rfl ?_
      have : sPlace S n = some (sN S 1 0 / 4 + 16 * k) := by
        unfold sPlace
        rw [(zFst_some (k := k)).mpr ⟨by omega, ⟨by omega, q⟩, hp⟩]
        rfl
      rw [this]
      exact z_iret rfl rfl ⟨rfl, rfl⟩
    · rw [zif_neg q]
      refine z_br rfl rfl (fun _ => ?_) (fun c => absurd c (by first | decide | (dsimp only; decide)))
      refine z_go 90 rfl ?_
      rw [show nI (sN S 1 0 / 4 + 16 * k) + (16 : Int32) = nI (sN S 1 0 / 4 + 16 * (k + 1)) from n_add _ 16]
      rw [n_add]
      refine r_v1 e1 rfl rfl rfl ?_
      refine z_go 90 rfl ?_
      refine ih (by omega) (fun j hj => ?_)
      by_cases e : j = k
      · subst e; exact fun z => q z.2
      · exact hp j (by omega)
theorem rc_old (G : zG X) (I : sInv S cc) (hh : 0 < sN S 25 0) : ZM X MX11_oldestLeaves 1 127 [.ref m] (zr X h m S) (zX (zr X h m (sOld S)) none) := by
  obtain ⟨I0, In, Ig, If, Ib, Iq, Ih, Im, Ic⟩ := id I
  have e25 : S 25 0 = nI (sN S 25 0) := sN_eq I0 rfl
  obtain ⟨c1, c2, c3, c4⟩ := Ic
  obtain ⟨q1, q2⟩ := Iq.1 0 hh
  obtain ⟨g1, g2, g3, -⟩ := Ib.1 _ q1
  have N2 := In.2.1
  refine zm_of_z G KX11_oldestLeaves rfl rfl ?_
  refine z_go 90 rfl ?_
  refine z_get zr_o rfl rfl rfl rfl ?_
  refine z_go 90 rfl ?_
  refine r_lv24 0 (sN_eq I0 rfl) rfl (by omega) rfl ?_
  refine z_go 90 rfl ?_
  refine r_v25 e25 rfl rfl rfl ?_
  refine z_go 90 rfl ?_
  rw [show nI (sN S 25 0) - (1 : Int32) = nI (sN S 25 0 - 1) from n_sub (b := 1) (by omega) (by omega)]
  refine r_p25 rfl rfl rfl ?_
  refine z_go 90 rfl ?_
  refine r_v25 rfl rfl rfl rfl ?_
  refine z_go 90 rfl ?_
  refine z_eqS (S' := zV (zV S 25 (fun _ => nI (sN S 25 0 - 1))) 24 (fun i => if i < 0 then S 24 (i + 1) else S 24 i)) ?_ ?_
  · rw [show (fun i => if i < 0 then S 24 (i + 1) else S 24 i) = zV S 25 (fun _ => nI (sN S 25 0 - 1)) 24 from funext fun i => if_neg (by omega), zV_same]
  have H := zdown (P := fun k => Z X MX11_oldestLeaves (1, 127, (zr X h m S).2.1, (zr X h m S).2.2) (zr X h m (zV (zV S 25 (fun _ => nI (sN S 25 0 - 1))) 24 (fun i => if i < k then S 24 (i + 1) else S 24 i))) 24 [some (.ref m), some (.int (nI (sN S 24 0))), some (Value.int (nI k))] [.int (nI (sN S 25 0 - 1)), .int (nI k)] (zX (zr X h m (sOld S)) none)) (sN S 25 0 - 1) (fun k hk ih => ?_) 0 (Nat.zero_le _)
  · exact H
  refine z_br rfl rfl (fun c => ?_) (fun c => ?_) <;> (try dsimp only at c)
  · rw [n_le (by omega) (by omega)] at c
    have : k = sN S 25 0 - 1 := by omega
    subst this
    refine z_go 90 rfl ?_
    refine z_get zr_o rfl rfl rfl rfl ?_
    refine z_go 90 rfl ?_
    refine r_st18 (sN S 24 0) (i_nI (by omega)) (by omega) rfl ?_
    refine z_go 90 rfl ?_
    refine z_get zr_o rfl rfl rfl rfl ?_
    refine z_go 90 rfl ?_
    refine r_lv19 (sN S 24 0) (sN_eq I0 rfl) (i_nI (by omega)) (by omega) rfl ?_
    refine z_go 90 rfl ?_
    refine z_get zr_o rfl rfl rfl rfl ?_
    refine z_go 90 rfl ?_
    refine r_lv19 (sN S 24 0) (sN_eq I0 rfl) (i_nI (by omega)) (by omega) rfl ?_
    refine z_go 90 rfl ?_
    refine z_get zr_o rfl rfl rfl rfl ?_
    refine z_go 90 rfl ?_
    refine r_lv20 (sN S 24 0) (sN_eq I0 rfl) (i_nI (by omega)) (by omega) rfl ?_
    refine z_go 90 rfl ?_
    rw [n_add]
    refine z_cV zr_o (rc_paint G (sN S 19 (sN S 24 0)) (sN S 19 (sN S 24 0) + sN S 20 (sN S 24 0)) 250 (by omega) (by omega)) KX11_paint IX11_paint VX11_paint rfl rfl rfl PX11_paint rfl rfl rfl rfl ?_
    refine z_go 90 rfl ?_
    exact z_vret rfl rfl ⟨rfl, rfl⟩
  · rw [n_le (by omega) (by omega)] at c
    refine z_go 90 rfl ?_
    refine z_get zr_o rfl rfl rfl rfl ?_
    refine z_go 90 rfl ?_
    refine z_get zr_o rfl rfl rfl rfl ?_
    refine z_go 90 rfl ?_
    rw [show nI k + (1 : Int32) = nI (k + 1) from n_succ k]
    refine r_lv24 (k + 1) (show (if k + 1 < k then _ else S 24 (k + 1)) = S 24 (k + 1) from if_neg (by omega)) (i_nI (by omega)) (by omega) rfl ?_
    refine z_go 90 rfl ?_
    refine r_st24 k (i_nI (by omega)) (by omega) rfl ?_
    refine z_go 90 rfl ?_
    rw [show nI k + (1 : Int32) = nI (k + 1) from n_succ k]
    refine r_v25 rfl rfl rfl rfl ?_
    refine z_go 90 rfl ?_
    refine z_eqS (S' := zV (zV S 25 (fun _ => nI (sN S 25 0 - 1))) 24 (fun i => if i < k + 1 then S 24 (i + 1) else S 24 i)) ?_ (ih (by omega))
    rw [zV_V]
    refine congrArg (zV (zV S 25 (fun _ => nI (sN S 25 0 - 1))) 24) (funext fun i => ?_)
    show (if i = k then S 24 (k + 1) else if i < k then S 24 (i + 1) else S 24 i) = _
    by_cases c1 : i = k
    · rw [if_pos c1, if_pos (by omega), c1]
    · by_cases c2 : i < k
      · rw [if_neg c1, if_pos c2, if_pos (by omega)]
      · rw [if_neg c1, if_neg c2, if_neg (by omega)]
end ZBL
