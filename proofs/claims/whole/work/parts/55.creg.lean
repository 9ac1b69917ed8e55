section ZRG
variable {X : zCx} {h : zHp} {a b A n B k : Nat} {pl nu gv fd pl2 nu2 gv2 fd2 : Int32}
abbrev zRgF (pl nu : Int32) (A n : Nat) (gv fd : Int32) (rest : List Value) : List Value := .int pl :: .int nu :: .int (nI A) :: .int (nI n) :: .int (nI (A + n)) :: .int gv :: .int fd :: rest
theorem c_far8 (G : zG X) (hh : h.1 a = some (.inr (8, zRgF pl nu A n gv fd []))) (z : Nat) (hz : z ≤ 20000) (hA : A ≤ 20000) (hn : n ≤ 20000) : ZM X MX7_farFrom 0 100 [.ref a, .int (nI z)] h (zX h (some (.int (nI (sFar z A n))))) := by
  refine zm_of_z G KX7_farFrom rfl rfl ?_
  refine z_go 90 rfl ?_
  refine z_get hh rfl rfl rfl rfl ?_
  refine z_br rfl rfl (fun c => ?_) (fun c => ?_) <;> (try dsimp only at c)
  · rw [n_le (by omega) (by omega)] at c
    refine z_go 90 rfl ?_
    refine z_get hh rfl rfl rfl rfl ?_
    refine z_br rfl rfl (fun d => ?_) (fun d => ?_) <;> (try dsimp only at d)
    · rw [n_le (by omega) (by omega)] at d
      refine z_go 90 rfl ?_
      refine z_get hh rfl rfl rfl rfl ?_
      refine z_go 90 rfl ?_
      rw [n_sub d (by omega), show nI (z - (A + n)) + (1 : Int32) = nI (z - (A + n) + 1) from n_succ _]
      exact z_iret rfl rfl ⟨rfl, by unfold sFar; rw [if_neg (by omega), if_pos d]⟩
    · rw [n_le (by omega) (by omega)] at d
      refine z_go 90 rfl ?_
      exact z_iret rfl rfl ⟨rfl, by unfold sFar; rw [if_neg (by omega), if_neg d]; rfl⟩
  · rw [n_le (by omega) (by omega)] at c
    refine z_go 90 rfl ?_
    refine z_get hh rfl rfl rfl rfl ?_
    refine z_go 90 rfl ?_
    rw [n_sub (by omega) (by omega)]
    exact z_iret rfl rfl ⟨rfl, by unfold sFar; rw [if_pos (by omega)]⟩
theorem c_side8 (G : zG X) (hh : h.1 a = some (.inr (8, zRgF pl nu A n gv fd []))) (z : Nat) (hz : z ≤ 20000) (hA : A ≤ 20000) (hn : n ≤ 20000) : ZM X MX7_sideOf 0 100 [.ref a, .int (nI z)] h (zX h (some (.int (nI (sSide z A n))))) := by
  refine zm_of_z G KX7_sideOf rfl rfl ?_
  refine z_go 90 rfl ?_
  refine z_get hh rfl rfl rfl rfl ?_
  refine z_br rfl rfl (fun c => ?_) (fun c => ?_) <;> (try dsimp only at c)
  · rw [n_le (by omega) (by omega)] at c
    refine z_go 90 rfl ?_
    refine z_get hh rfl rfl rfl rfl ?_
    refine z_br rfl rfl (fun d => ?_) (fun d => ?_) <;> (try dsimp only at d)
    · rw [n_le (by omega) (by omega)] at d
      refine z_go 90 rfl ?_
      exact z_iret rfl rfl ⟨rfl, by unfold sSide sFar; rw [if_neg (show ¬ z < A by omega), if_pos d, if_neg (by omega), if_neg (by omega)]; rfl⟩
    · rw [n_le (by omega) (by omega)] at d
      refine z_go 90 rfl ?_
      exact z_iret rfl rfl ⟨rfl, by unfold sSide sFar; rw [if_neg (show ¬ z < A by omega), if_neg d, if_pos rfl]; rfl⟩
  · rw [n_le (by omega) (by omega)] at c
    refine z_go 90 rfl ?_
    exact z_iret rfl rfl ⟨rfl, by unfold sSide sFar; rw [if_pos (show z < A by omega), if_neg (by omega), if_pos (by omega)]; rfl⟩
theorem c_nearer8 (G : zG X) (h1 : h.1 a = some (.inr (8, zRgF pl nu A n gv fd []))) (h2 : h.1 b = some (.inr (8, zRgF pl2 nu2 B k gv2 fd2 []))) (z : Nat) (hz : z ≤ 20000) (hA : A ≤ 20000) (hn : n ≤ 20000) (hB : B ≤ 20000) (hk : k ≤ 20000) : ZM X MX10_nearer 1 127 [.ref a, .ref b, .int (nI z)] h (zX h (some (.ref (if sFar z B k < sFar z A n ∨ (sFar z B k = sFar z A n ∧ B < A) then b else a)))) := by
  have f1 : sFar z A n ≤ 60000 := by unfold sFar; split <;> (try split) <;> omega
  have f2 : sFar z B k ≤ 60000 := by unfold sFar; split <;> (try split) <;> omega
  refine zm_of_z G KX10_nearer rfl rfl ?_
  refine z_go 90 rfl ?_
  refine z_cV h2 (c_far8 G h2 z hz hB hk) KX7_farFrom IX7_farFrom VX7_farFrom rfl rfl rfl PX7_farFrom rfl rfl rfl rfl ?_
  refine z_go 90 rfl ?_
  refine z_cV h1 (c_far8 G h1 z hz hA hn) KX7_farFrom IX7_farFrom VX7_farFrom rfl rfl rfl PX7_farFrom rfl rfl rfl rfl ?_
  refine z_cS (c_cmp G _ _) KJ6_compare_7cf53 SJ6_compare_7cf53 rfl rfl PJ6_compare_7cf53 rfl rfl rfl rfl ?_
  refine z_go 90 rfl ?_
  have l := n_lt (a := sFar z B k) (b := sFar z A n) (by omega) (by omega)
  have e := n_eq (a := sFar z B k) (b := sFar z A n) (by omega) (by omega)
  have l2 := n_lt (a := B) (b := A) (by omega) (by omega)
  have e2 := n_eq (a := B) (b := A) (by omega) (by omega)
  refine z_ite (p := sFar z B k < sFar z A n) (fun q => ?_) (fun q => ?_)
  · rw [if_pos (l.mpr q), if_pos (Or.inl q)]
    refine z_br rfl rfl (fun _ => ?_) (fun c => absurd c (by first | decide | (dsimp only; decide)))
    refine z_go 90 rfl ?_
    refine z_br rfl rfl (fun c => absurd c (by first | decide | (dsimp only; decide))) (fun _ => ?_)
    refine z_go 90 rfl ?_
    exact z_aret (r := some b) rfl rfl (Or.inl ⟨_, rfl⟩) ⟨rfl, rfl⟩
  rw [if_neg (fun w => q (l.mp w))]
  refine z_ite (p := sFar z B k = sFar z A n) (fun u => ?_) (fun u => ?_)
  · rw [if_pos (e.mpr u)]
    refine z_br rfl rfl (fun c => absurd c (by first | decide | (dsimp only; decide))) (fun _ => ?_)
    refine z_go 90 rfl ?_
    refine z_get h2 rfl rfl rfl rfl ?_
    refine z_go 90 rfl ?_
    refine z_get h1 rfl rfl rfl rfl ?_
    refine z_cS (c_cmp G _ _) KJ6_compare_7cf53 SJ6_compare_7cf53 rfl rfl PJ6_compare_7cf53 rfl rfl rfl rfl ?_
    refine z_go 90 rfl ?_
    refine z_ite (p := B < A) (fun w => ?_) (fun w => ?_)
    · rw [if_pos (l2.mpr w), if_pos (Or.inr ⟨u, w⟩)]
      refine z_br rfl rfl (fun c => absurd c (by first | decide | (dsimp only; decide))) (fun _ => ?_)
      refine z_go 90 rfl ?_
      exact z_aret (r := some b) rfl rfl (Or.inl ⟨_, rfl⟩) ⟨rfl, rfl⟩
    · rw [if_neg (fun y => w (l2.mp y)), if_neg (show ¬ (sFar z B k < sFar z A n ∨ (sFar z B k = sFar z A n ∧ B < A)) by omega)]
      refine z_ite (p := B = A) (fun y => ?_) (fun y => ?_)
      · rw [if_pos (e2.mpr y)]
        refine z_br rfl rfl (fun _ => ?_) (fun c => absurd c (by first | decide | (dsimp only; decide)))
        refine z_go 90 rfl ?_
        exact z_aret (r := some a) rfl rfl (Or.inl ⟨_, rfl⟩) ⟨rfl, rfl⟩
      · rw [if_neg (fun v => y (e2.mp v))]
        refine z_br rfl rfl (fun _ => ?_) (fun c => absurd c (by first | decide | (dsimp only; decide)))
        refine z_go 90 rfl ?_
        exact z_aret (r := some a) rfl rfl (Or.inl ⟨_, rfl⟩) ⟨rfl, rfl⟩
  · rw [if_neg (fun w => u (e.mp w)), if_neg (show ¬ (sFar z B k < sFar z A n ∨ (sFar z B k = sFar z A n ∧ B < A)) by omega)]
    refine z_br rfl rfl (fun _ => ?_) (fun c => absurd c (by first | decide | (dsimp only; decide)))
    refine z_go 90 rfl ?_
    refine z_br rfl rfl (fun _ => ?_) (fun c => absurd c (by first | decide | (dsimp only; decide)))
    refine z_go 90 rfl ?_
    exact z_aret (r := some a) rfl rfl (Or.inl ⟨_, rfl⟩) ⟨rfl, rfl⟩
theorem c_far10 (G : zG X) {w : Int32} (hh : h.1 a = some (.inr (10, zRgF pl nu A n gv fd [.int w]))) (z : Nat) (hz : z ≤ 20000) (hA : A ≤ 20000) (hn : n ≤ 20000) : ZM X MX7_farFrom 0 100 [.ref a, .int (nI z)] h (zX h (some (.int (nI (sFar z A n))))) := by
  refine zm_of_z G KX7_farFrom rfl rfl ?_
  refine z_go 90 rfl ?_
  refine z_get hh rfl rfl rfl rfl ?_
  refine z_br rfl rfl (fun c => ?_) (fun c => ?_) <;> (try dsimp only at c)
  · rw [n_le (by omega) (by omega)] at c
    refine z_go 90 rfl ?_
    refine z_get hh rfl rfl rfl rfl ?_
    refine z_br rfl rfl (fun d => ?_) (fun d => ?_) <;> (try dsimp only at d)
    · rw [n_le (by omega) (by omega)] at d
      refine z_go 90 rfl ?_
      refine z_get hh rfl rfl rfl rfl ?_
      refine z_go 90 rfl ?_
      rw [n_sub d (by omega), show nI (z - (A + n)) + (1 : Int32) = nI (z - (A + n) + 1) from n_succ _]
      exact z_iret rfl rfl ⟨rfl, by unfold sFar; rw [if_neg (by omega), if_pos d]⟩
    · rw [n_le (by omega) (by omega)] at d
      refine z_go 90 rfl ?_
      exact z_iret rfl rfl ⟨rfl, by unfold sFar; rw [if_neg (by omega), if_neg d]; rfl⟩
  · rw [n_le (by omega) (by omega)] at c
    refine z_go 90 rfl ?_
    refine z_get hh rfl rfl rfl rfl ?_
    refine z_go 90 rfl ?_
    rw [n_sub (by omega) (by omega)]
    exact z_iret rfl rfl ⟨rfl, by unfold sFar; rw [if_pos (by omega)]⟩
theorem c_side10 (G : zG X) {w : Int32} (hh : h.1 a = some (.inr (10, zRgF pl nu A n gv fd [.int w]))) (z : Nat) (hz : z ≤ 20000) (hA : A ≤ 20000) (hn : n ≤ 20000) : ZM X MX7_sideOf 0 100 [.ref a, .int (nI z)] h (zX h (some (.int (nI (sSide z A n))))) := by
  refine zm_of_z G KX7_sideOf rfl rfl ?_
  refine z_go 90 rfl ?_
  refine z_get hh rfl rfl rfl rfl ?_
  refine z_br rfl rfl (fun c => ?_) (fun c => ?_) <;> (try dsimp only at c)
  · rw [n_le (by omega) (by omega)] at c
    refine z_go 90 rfl ?_
    refine z_get hh rfl rfl rfl rfl ?_
    refine z_br rfl rfl (fun d => ?_) (fun d => ?_) <;> (try dsimp only at d)
    · rw [n_le (by omega) (by omega)] at d
      refine z_go 90 rfl ?_
      exact z_iret rfl rfl ⟨rfl, by unfold sSide sFar; rw [if_neg (show ¬ z < A by omega), if_pos d, if_neg (by omega), if_neg (by omega)]; rfl⟩
    · rw [n_le (by omega) (by omega)] at d
      refine z_go 90 rfl ?_
      exact z_iret rfl rfl ⟨rfl, by unfold sSide sFar; rw [if_neg (show ¬ z < A by omega), if_neg d, if_pos rfl]; rfl⟩
  · rw [n_le (by omega) (by omega)] at c
    refine z_go 90 rfl ?_
    exact z_iret rfl rfl ⟨rfl, by unfold sSide sFar; rw [if_pos (show z < A by omega), if_neg (by omega), if_pos (by omega)]; rfl⟩
theorem c_nearer10 (G : zG X) {w : Int32} {w2 : Int32} (h1 : h.1 a = some (.inr (10, zRgF pl nu A n gv fd [.int w]))) (h2 : h.1 b = some (.inr (10, zRgF pl2 nu2 B k gv2 fd2 [.int w2]))) (z : Nat) (hz : z ≤ 20000) (hA : A ≤ 20000) (hn : n ≤ 20000) (hB : B ≤ 20000) (hk : k ≤ 20000) : ZM X MX10_nearer 1 127 [.ref a, .ref b, .int (nI z)] h (zX h (some (.ref (if sFar z B k < sFar z A n ∨ (sFar z B k = sFar z A n ∧ B < A) then b else a)))) := by
  have f1 : sFar z A n ≤ 60000 := by unfold sFar; split <;> (try split) <;> omega
  have f2 : sFar z B k ≤ 60000 := by unfold sFar; split <;> (try split) <;> omega
  refine zm_of_z G KX10_nearer rfl rfl ?_
  refine z_go 90 rfl ?_
  refine z_cV h2 (c_far10 G h2 z hz hB hk) KX7_farFrom IX7_farFrom VX7_farFrom_Variable rfl rfl rfl PX7_farFrom rfl rfl rfl rfl ?_
  refine z_go 90 rfl ?_
  refine z_cV h1 (c_far10 G h1 z hz hA hn) KX7_farFrom IX7_farFrom VX7_farFrom_Variable rfl rfl rfl PX7_farFrom rfl rfl rfl rfl ?_
  refine z_cS (c_cmp G _ _) KJ6_compare_7cf53 SJ6_compare_7cf53 rfl rfl PJ6_compare_7cf53 rfl rfl rfl rfl ?_
  refine z_go 90 rfl ?_
  have l := n_lt (a := sFar z B k) (b := sFar z A n) (by omega) (by omega)
  have e := n_eq (a := sFar z B k) (b := sFar z A n) (by omega) (by omega)
  have l2 := n_lt (a := B) (b := A) (by omega) (by omega)
  have e2 := n_eq (a := B) (b := A) (by omega) (by omega)
  refine z_ite (p := sFar z B k < sFar z A n) (fun q => ?_) (fun q => ?_)
  · rw [if_pos (l.mpr q), if_pos (Or.inl q)]
    refine z_br rfl rfl (fun _ => ?_) (fun c => absurd c (by first | decide | (dsimp only; decide)))
    refine z_go 90 rfl ?_
    refine z_br rfl rfl (fun c => absurd c (by first | decide | (dsimp only; decide))) (fun _ => ?_)
    refine z_go 90 rfl ?_
    exact z_aret (r := some b) rfl rfl (Or.inl ⟨_, rfl⟩) ⟨rfl, rfl⟩
  rw [if_neg (fun w => q (l.mp w))]
  refine z_ite (p := sFar z B k = sFar z A n) (fun u => ?_) (fun u => ?_)
  · rw [if_pos (e.mpr u)]
    refine z_br rfl rfl (fun c => absurd c (by first | decide | (dsimp only; decide))) (fun _ => ?_)
    refine z_go 90 rfl ?_
    refine z_get h2 rfl rfl rfl rfl ?_
    refine z_go 90 rfl ?_
    refine z_get h1 rfl rfl rfl rfl ?_
    refine z_cS (c_cmp G _ _) KJ6_compare_7cf53 SJ6_compare_7cf53 rfl rfl PJ6_compare_7cf53 rfl rfl rfl rfl ?_
    refine z_go 90 rfl ?_
    refine z_ite (p := B < A) (fun w => ?_) (fun w => ?_)
    · rw [if_pos (l2.mpr w), if_pos (Or.inr ⟨u, w⟩)]
      refine z_br rfl rfl (fun c => absurd c (by first | decide | (dsimp only; decide))) (fun _ => ?_)
      refine z_go 90 rfl ?_
      exact z_aret (r := some b) rfl rfl (Or.inl ⟨_, rfl⟩) ⟨rfl, rfl⟩
    · rw [if_neg (fun y => w (l2.mp y)), if_neg (show ¬ (sFar z B k < sFar z A n ∨ (sFar z B k = sFar z A n ∧ B < A)) by omega)]
      refine z_ite (p := B = A) (fun y => ?_) (fun y => ?_)
      · rw [if_pos (e2.mpr y)]
        refine z_br rfl rfl (fun _ => ?_) (fun c => absurd c (by first | decide | (dsimp only; decide)))
        refine z_go 90 rfl ?_
        exact z_aret (r := some a) rfl rfl (Or.inl ⟨_, rfl⟩) ⟨rfl, rfl⟩
      · rw [if_neg (fun v => y (e2.mp v))]
        refine z_br rfl rfl (fun _ => ?_) (fun c => absurd c (by first | decide | (dsimp only; decide)))
        refine z_go 90 rfl ?_
        exact z_aret (r := some a) rfl rfl (Or.inl ⟨_, rfl⟩) ⟨rfl, rfl⟩
  · rw [if_neg (fun w => u (e.mp w)), if_neg (show ¬ (sFar z B k < sFar z A n ∨ (sFar z B k = sFar z A n ∧ B < A)) by omega)]
    refine z_br rfl rfl (fun _ => ?_) (fun c => absurd c (by first | decide | (dsimp only; decide)))
    refine z_go 90 rfl ?_
    refine z_br rfl rfl (fun _ => ?_) (fun c => absurd c (by first | decide | (dsimp only; decide)))
    refine z_go 90 rfl ?_
    exact z_aret (r := some a) rfl rfl (Or.inl ⟨_, rfl⟩) ⟨rfl, rfl⟩
theorem c_far1 (G : zG X) {x1 x2 x3 x4 x5 x6 : Int32} (hh : h.1 a = some (.inr (1, zRgF pl nu A n gv fd [.int x1, .int x2, .int x3, .int x4, .int x5, .int x6]))) (z : Nat) (hz : z ≤ 20000) (hA : A ≤ 20000) (hn : n ≤ 20000) : ZM X MX7_farFrom 0 100 [.ref a, .int (nI z)] h (zX h (some (.int (nI (sFar z A n))))) := by
  refine zm_of_z G KX7_farFrom rfl rfl ?_
  refine z_go 90 rfl ?_
  refine z_get hh rfl rfl rfl rfl ?_
  refine z_br rfl rfl (fun c => ?_) (fun c => ?_) <;> (try dsimp only at c)
  · rw [n_le (by omega) (by omega)] at c
    refine z_go 90 rfl ?_
    refine z_get hh rfl rfl rfl rfl ?_
    refine z_br rfl rfl (fun d => ?_) (fun d => ?_) <;> (try dsimp only at d)
    · rw [n_le (by omega) (by omega)] at d
      refine z_go 90 rfl ?_
      refine z_get hh rfl rfl rfl rfl ?_
      refine z_go 90 rfl ?_
      rw [n_sub d (by omega), show nI (z - (A + n)) + (1 : Int32) = nI (z - (A + n) + 1) from n_succ _]
      exact z_iret rfl rfl ⟨rfl, by unfold sFar; rw [if_neg (by omega), if_pos d]⟩
    · rw [n_le (by omega) (by omega)] at d
      refine z_go 90 rfl ?_
      exact z_iret rfl rfl ⟨rfl, by unfold sFar; rw [if_neg (by omega), if_neg d]; rfl⟩
  · rw [n_le (by omega) (by omega)] at c
    refine z_go 90 rfl ?_
    refine z_get hh rfl rfl rfl rfl ?_
    refine z_go 90 rfl ?_
    rw [n_sub (by omega) (by omega)]
    exact z_iret rfl rfl ⟨rfl, by unfold sFar; rw [if_pos (by omega)]⟩
theorem c_side1 (G : zG X) {x1 x2 x3 x4 x5 x6 : Int32} (hh : h.1 a = some (.inr (1, zRgF pl nu A n gv fd [.int x1, .int x2, .int x3, .int x4, .int x5, .int x6]))) (z : Nat) (hz : z ≤ 20000) (hA : A ≤ 20000) (hn : n ≤ 20000) : ZM X MX7_sideOf 0 100 [.ref a, .int (nI z)] h (zX h (some (.int (nI (sSide z A n))))) := by
  refine zm_of_z G KX7_sideOf rfl rfl ?_
  refine z_go 90 rfl ?_
  refine z_get hh rfl rfl rfl rfl ?_
  refine z_br rfl rfl (fun c => ?_) (fun c => ?_) <;> (try dsimp only at c)
  · rw [n_le (by omega) (by omega)] at c
    refine z_go 90 rfl ?_
    refine z_get hh rfl rfl rfl rfl ?_
    refine z_br rfl rfl (fun d => ?_) (fun d => ?_) <;> (try dsimp only at d)
    · rw [n_le (by omega) (by omega)] at d
      refine z_go 90 rfl ?_
      exact z_iret rfl rfl ⟨rfl, by unfold sSide sFar; rw [if_neg (show ¬ z < A by omega), if_pos d, if_neg (by omega), if_neg (by omega)]; rfl⟩
    · rw [n_le (by omega) (by omega)] at d
      refine z_go 90 rfl ?_
      exact z_iret rfl rfl ⟨rfl, by unfold sSide sFar; rw [if_neg (show ¬ z < A by omega), if_neg d, if_pos rfl]; rfl⟩
  · rw [n_le (by omega) (by omega)] at c
    refine z_go 90 rfl ?_
    exact z_iret rfl rfl ⟨rfl, by unfold sSide sFar; rw [if_pos (show z < A by omega), if_neg (by omega), if_pos (by omega)]; rfl⟩
theorem c_nearer1 (G : zG X) {x1 x2 x3 x4 x5 x6 : Int32} {x12 x22 x32 x42 x52 x62 : Int32} (h1 : h.1 a = some (.inr (1, zRgF pl nu A n gv fd [.int x1, .int x2, .int x3, .int x4, .int x5, .int x6]))) (h2 : h.1 b = some (.inr (1, zRgF pl2 nu2 B k gv2 fd2 [.int x12, .int x22, .int x32, .int x42, .int x52, .int x62]))) (z : Nat) (hz : z ≤ 20000) (hA : A ≤ 20000) (hn : n ≤ 20000) (hB : B ≤ 20000) (hk : k ≤ 20000) : ZM X MX10_nearer 1 127 [.ref a, .ref b, .int (nI z)] h (zX h (some (.ref (if sFar z B k < sFar z A n ∨ (sFar z B k = sFar z A n ∧ B < A) then b else a)))) := by
  have f1 : sFar z A n ≤ 60000 := by unfold sFar; split <;> (try split) <;> omega
  have f2 : sFar z B k ≤ 60000 := by unfold sFar; split <;> (try split) <;> omega
  refine zm_of_z G KX10_nearer rfl rfl ?_
  refine z_go 90 rfl ?_
  refine z_cV h2 (c_far1 G h2 z hz hB hk) KX7_farFrom IX7_farFrom VX7_farFrom_Block rfl rfl rfl PX7_farFrom rfl rfl rfl rfl ?_
  refine z_go 90 rfl ?_
  refine z_cV h1 (c_far1 G h1 z hz hA hn) KX7_farFrom IX7_farFrom VX7_farFrom_Block rfl rfl rfl PX7_farFrom rfl rfl rfl rfl ?_
  refine z_cS (c_cmp G _ _) KJ6_compare_7cf53 SJ6_compare_7cf53 rfl rfl PJ6_compare_7cf53 rfl rfl rfl rfl ?_
  refine z_go 90 rfl ?_
  have l := n_lt (a := sFar z B k) (b := sFar z A n) (by omega) (by omega)
  have e := n_eq (a := sFar z B k) (b := sFar z A n) (by omega) (by omega)
  have l2 := n_lt (a := B) (b := A) (by omega) (by omega)
  have e2 := n_eq (a := B) (b := A) (by omega) (by omega)
  refine z_ite (p := sFar z B k < sFar z A n) (fun q => ?_) (fun q => ?_)
  · rw [if_pos (l.mpr q), if_pos (Or.inl q)]
    refine z_br rfl rfl (fun _ => ?_) (fun c => absurd c (by first | decide | (dsimp only; decide)))
    refine z_go 90 rfl ?_
    refine z_br rfl rfl (fun c => absurd c (by first | decide | (dsimp only; decide))) (fun _ => ?_)
    refine z_go 90 rfl ?_
    exact z_aret (r := some b) rfl rfl (Or.inl ⟨_, rfl⟩) ⟨rfl, rfl⟩
  rw [if_neg (fun w => q (l.mp w))]
  refine z_ite (p := sFar z B k = sFar z A n) (fun u => ?_) (fun u => ?_)
  · rw [if_pos (e.mpr u)]
    refine z_br rfl rfl (fun c => absurd c (by first | decide | (dsimp only; decide))) (fun _ => ?_)
    refine z_go 90 rfl ?_
    refine z_get h2 rfl rfl rfl rfl ?_
    refine z_go 90 rfl ?_
    refine z_get h1 rfl rfl rfl rfl ?_
    refine z_cS (c_cmp G _ _) KJ6_compare_7cf53 SJ6_compare_7cf53 rfl rfl PJ6_compare_7cf53 rfl rfl rfl rfl ?_
    refine z_go 90 rfl ?_
    refine z_ite (p := B < A) (fun w => ?_) (fun w => ?_)
    · rw [if_pos (l2.mpr w), if_pos (Or.inr ⟨u, w⟩)]
      refine z_br rfl rfl (fun c => absurd c (by first | decide | (dsimp only; decide))) (fun _ => ?_)
      refine z_go 90 rfl ?_
      exact z_aret (r := some b) rfl rfl (Or.inl ⟨_, rfl⟩) ⟨rfl, rfl⟩
    · rw [if_neg (fun y => w (l2.mp y)), if_neg (show ¬ (sFar z B k < sFar z A n ∨ (sFar z B k = sFar z A n ∧ B < A)) by omega)]
      refine z_ite (p := B = A) (fun y => ?_) (fun y => ?_)
      · rw [if_pos (e2.mpr y)]
        refine z_br rfl rfl (fun _ => ?_) (fun c => absurd c (by first | decide | (dsimp only; decide)))
        refine z_go 90 rfl ?_
        exact z_aret (r := some a) rfl rfl (Or.inl ⟨_, rfl⟩) ⟨rfl, rfl⟩
      · rw [if_neg (fun v => y (e2.mp v))]
        refine z_br rfl rfl (fun _ => ?_) (fun c => absurd c (by first | decide | (dsimp only; decide)))
        refine z_go 90 rfl ?_
        exact z_aret (r := some a) rfl rfl (Or.inl ⟨_, rfl⟩) ⟨rfl, rfl⟩
  · rw [if_neg (fun w => u (e.mp w)), if_neg (show ¬ (sFar z B k < sFar z A n ∨ (sFar z B k = sFar z A n ∧ B < A)) by omega)]
    refine z_br rfl rfl (fun _ => ?_) (fun c => absurd c (by first | decide | (dsimp only; decide)))
    refine z_go 90 rfl ?_
    refine z_br rfl rfl (fun _ => ?_) (fun c => absurd c (by first | decide | (dsimp only; decide)))
    refine z_go 90 rfl ?_
    exact z_aret (r := some a) rfl rfl (Or.inl ⟨_, rfl⟩) ⟨rfl, rfl⟩
theorem c_nearer0 (G : zG X) (x : Int32) : ZM X MX10_nearer 1 127 [.null, .ref b, .int x] h (zX h (some (.ref b))) := by
  refine zm_of_z G KX10_nearer rfl rfl ?_
  refine z_go 90 rfl ?_
  exact z_aret (r := some b) rfl rfl (Or.inl ⟨_, rfl⟩) ⟨rfl, rfl⟩
end ZRG
