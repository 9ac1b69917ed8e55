section ZNE
variable {X : zCx} {M : zMI} {f : zFr} {h : zHp} {pc : Nat} {L : zLo} {st : List Value} {Q : zRs → zHp → Prop} {m : Nat} {S : zS} {r : Nat} {row : Nat → Int32} {cc : Nat}
theorem r_rep {i x : Int32} {p0 nx t : Nat} {lv : Int32} (j : Nat) (hj : j < 10) (hr : r + 10 ≤ 5300) (hi : i = nI (r + j)) (hf : zlk (zFt M) pc = some (p0, .iastore, nx, lv, t)) (kk : Z X M f (zr X h m (sRow S r (upd row j x))) nx L st Q) : Z X M f (zr X h m (sRow S r row)) pc L (.int x :: .int i :: .ref (m + 20) :: st) Q := by
  subst hi
  refine r_st26 (r + j) (i_nI (by omega)) (by omega) hf ?_
  rw [sRow_st _ _ _ _ _ hj]
  exact kk
theorem r_repl {i x : Int32} {p0 nx t : Nat} {lv : Int32} (j : Nat) (e : row j = x) (hj : j < 10) (hr : r + 10 ≤ 5300) (hi : i = nI (r + j)) (hf : zlk (zFt M) pc = some (p0, .iaload, nx, lv, t)) (kk : Z X M f (zr X h m (sRow S r row)) nx L (.int x :: st) Q) : Z X M f (zr X h m (sRow S r row)) pc L (.int i :: .ref (m + 20) :: st) Q := by
  subst hi
  exact r_lv26 (r + j) ((sRow_at _ _ _ _ hj).trans e) (i_nI (by omega)) (by omega) hf kk
theorem rc_reg1 (G : zG X) (j : Nat) (hj : j < 40) : ZM X MX11_regionAt 0 100 [.ref m, .int 1, .int (nI j)] (zr X h m S) (zX (zr X h m S) (some (.int (S 5 j)))) := by
  refine zm_of_z G KX11_regionAt rfl rfl ?_
  refine z_go 90 rfl ?_
  refine z_br rfl rfl (fun c => absurd c (by first | decide | (dsimp only; decide))) (fun _ => ?_)
  refine z_go 90 rfl ?_
  refine z_get zr_o rfl rfl rfl rfl ?_
  refine z_go 90 rfl ?_
  refine r_ld5 j (i_nI (by omega)) hj rfl ?_
  refine z_go 90 rfl ?_
  exact z_iret rfl rfl ⟨rfl, rfl⟩
theorem rc_reg2 (G : zG X) (j : Nat) (hj : j < 96) : ZM X MX11_regionAt 0 100 [.ref m, .int 2, .int (nI j)] (zr X h m S) (zX (zr X h m S) (some (.int (S 11 j)))) := by
  refine zm_of_z G KX11_regionAt rfl rfl ?_
  refine z_go 90 rfl ?_
  refine z_br rfl rfl (fun _ => ?_) (fun c => absurd c (by first | decide | (dsimp only; decide)))
  refine z_go 90 rfl ?_
  refine z_br rfl rfl (fun c => absurd c (by first | decide | (dsimp only; decide))) (fun _ => ?_)
  refine z_go 90 rfl ?_
  refine z_get zr_o rfl rfl rfl rfl ?_
  refine z_go 90 rfl ?_
  refine r_ld11 j (i_nI (by omega)) hj rfl ?_
  refine z_go 90 rfl ?_
  exact z_iret rfl rfl ⟨rfl, rfl⟩
theorem rc_reg3 (G : zG X) (j : Nat) (hj : j < 520) : ZM X MX11_regionAt 0 100 [.ref m, .int 3, .int (nI j)] (zr X h m S) (zX (zr X h m S) (some (.int (S 15 j)))) := by
  refine zm_of_z G KX11_regionAt rfl rfl ?_
  refine z_go 90 rfl ?_
  refine z_br rfl rfl (fun _ => ?_) (fun c => absurd c (by first | decide | (dsimp only; decide)))
  refine z_go 90 rfl ?_
  refine z_br rfl rfl (fun _ => ?_) (fun c => absurd c (by first | decide | (dsimp only; decide)))
  refine z_go 90 rfl ?_
  refine z_get zr_o rfl rfl rfl rfl ?_
  refine z_go 90 rfl ?_
  refine r_ld15 j (i_nI (by omega)) hj rfl ?_
  refine z_go 90 rfl ?_
  exact z_iret rfl rfl ⟨rfl, rfl⟩
theorem sRw_over (base : Nat → Int32) (sort : Int32) (z : Nat) (A N : Nat → Nat) (b : Option Nat) (k : Nat) : upd (upd (upd (upd (sRw base sort z A N b) 4 sort) 5 (nI k)) 6 (nI (sFar z (A k) (N k)))) 7 (nI (sSide z (A k) (N k))) = sRw base sort z A N (some k) := by
  cases b with
  | none => rfl
  | some j =>
    funext i
    simp only [sRw, upd]
    by_cases c7 : i = 7
    · rw [if_pos c7, if_pos c7]
    · by_cases c6 : i = 6
      · simp only [c7, c6, if_true, if_false, if_pos, if_neg]
      · by_cases c5 : i = 5
        · simp [c7, c6, c5]
        · by_cases c4 : i = 4
          · simp [c7, c6, c5, c4]
          · simp [c7, c6, c5, c4]
theorem rc_nearer (G : zG X) (base : Nat → Int32) (sort : Int32) (Ad : Int64) (z k : Nat) (A N : Nat → Nat) (b : Option Nat) (hr : r + 10 ≤ 5300) (hz : Ad.toInt = (z : Int)) (hz2 : z ≤ 20000) (hA : ∀ i, A i ≤ 20000) (hN : ∀ i, N i ≤ 20000) (hs : sort ≠ 0) (hb4 : base 4 = 0)
    (hreg : ∀ j, b = some j → ZM X MX11_regionAt 0 100 [.ref m, .int sort, .int (nI j)] (zr X h m (sRow S r (sRw base sort z A N b))) (zX (zr X h m (sRow S r (sRw base sort z A N b))) (some (.int (nI (A j)))))) :
    ZM X MX11_nearer 1 125 [.ref m, .int (nI r), .long Ad, .int sort, .int (nI k), .int (nI (A k)), .int (nI (N k))] (zr X h m (sRow S r (sRw base sort z A N b))) (zX (zr X h m (sRow S r (sRw base sort z A N (sNr z A N b k)))) none) := by
  have hAk := hA k
  have hNk := hN k
  have hf : sFar z (A k) (N k) ≤ 40000 := by unfold sFar; split <;> (try split) <;> omega
  refine zm_of_z G KX11_nearer rfl rfl ?_
  refine z_go 90 rfl ?_
  refine z_invS (rc_far G Ad z (A k) (N k) hz hz2 hAk hNk) KX11_far SX11_far rfl rfl PX11_far rfl rfl rfl rfl (fun v h' q => ?_) (fun E h' q => by obtain ⟨-, x, -, q⟩ := q; cases q)
  obtain ⟨rfl, x, hx, q⟩ := q
  cases q
  refine z_go 90 rfl ?_
  rw [l_back hx (by omega)]
  refine z_get zr_o rfl rfl rfl rfl ?_
  refine z_go 90 rfl ?_
  have take : sNr z A N b k = some k → Z X MX11_nearer (1, 125, h.2.1, h.2.2) (zr X h m (sRow S r (sRw base sort z A N b))) 83 [some (.ref m), some (.int (nI r)), some (.long Ad), none, some (.int sort), some (.int (nI k)), some (.int (nI (A k))), some (.int (nI (N k))), some (.int (nI (sFar z (A k) (N k)))), some (.int 1)] [.ref m] (zX (zr X h m (sRow S r (sRw base sort z A N (sNr z A N b k)))) none) := by
    intro ht
    rw [ht, ← sRw_over base sort z A N b k]
    refine z_get zr_o rfl rfl rfl rfl ?_
    refine z_go 90 rfl ?_
    refine r_rep 4 (by decide) hr (n_add _ 4) rfl ?_
    refine z_go 90 rfl ?_
    refine z_get zr_o rfl rfl rfl rfl ?_
    refine z_go 90 rfl ?_
    refine r_rep 5 (by decide) hr (n_add _ 5) rfl ?_
    refine z_go 90 rfl ?_
    refine z_get zr_o rfl rfl rfl rfl ?_
    refine z_go 90 rfl ?_
    refine r_rep 6 (by decide) hr (n_add _ 6) rfl ?_
    refine z_go 90 rfl ?_
    refine z_get zr_o rfl rfl rfl rfl ?_
    refine z_go 90 rfl ?_
    refine z_br rfl rfl (fun c => ?_) (fun c => ?_) <;> (try dsimp only at c)
    · refine z_go 90 rfl ?_
      refine z_br rfl rfl (fun d => ?_) (fun d => ?_) <;> (try dsimp only at d)
      · rw [lc_ge, l_nI (by omega)] at d
        refine z_go 90 rfl ?_
        refine r_rep 7 (by decide) hr (n_add _ 7) rfl ?_
        rw [show (0 : Int32) = nI 0 from rfl, n_eq (by omega) (by omega)] at c
        exact z_vret rfl rfl ⟨by rw [show sSide z (A k) (N k) = 1 by unfold sSide; rw [if_neg c, if_neg (by omega)]]; rfl, rfl⟩
      · rw [lc_ge, l_nI (by omega)] at d
        refine z_go 90 rfl ?_
        refine r_rep 7 (by decide) hr (n_add _ 7) rfl ?_
        rw [show (0 : Int32) = nI 0 from rfl, n_eq (by omega) (by omega)] at c
        exact z_vret rfl rfl ⟨by rw [show sSide z (A k) (N k) = 2 by unfold sSide; rw [if_neg c, if_pos (by omega)]]; rfl, rfl⟩
    · refine z_go 90 rfl ?_
      refine r_rep 7 (by decide) hr (n_add _ 7) rfl ?_
      rw [show (0 : Int32) = nI 0 from rfl, n_eq (by omega) (by omega)] at c
      exact z_vret rfl rfl ⟨by rw [show sSide z (A k) (N k) = 0 by unfold sSide; rw [if_pos c]]; rfl, rfl⟩
  cases b with
  | none =>
    refine r_repl 4 (show base 4 = 0 from hb4) (by decide) hr (n_add _ 4) rfl ?_
    refine z_go 90 rfl ?_
    refine z_br rfl rfl (fun _ => ?_) (fun c => absurd c (by first | decide | (dsimp only; decide)))
    refine z_go 90 rfl ?_
    refine z_br rfl rfl (fun _ => ?_) (fun c => absurd c (by first | decide | (dsimp only; decide)))
    refine z_go 90 rfl ?_
    exact take rfl
  | some j =>
    have hAj := hA j
    have hNj := hN j
    have hfj : sFar z (A j) (N j) ≤ 40000 := by unfold sFar; split <;> (try split) <;> omega
    refine r_repl 4 (show sRw base sort z A N (some j) 4 = sort from rfl) (by decide) hr (n_add _ 4) rfl ?_
    refine z_go 90 rfl ?_
    refine z_br rfl rfl (fun c => ?_) (fun c => ?_) <;> (try dsimp only at c)
    · exact absurd c hs
    refine z_go 90 rfl ?_
    refine z_get zr_o rfl rfl rfl rfl ?_
    refine z_go 90 rfl ?_
    refine r_repl 6 (show sRw base sort z A N (some j) 6 = nI (sFar z (A j) (N j)) from rfl) (by decide) hr (n_add _ 6) rfl ?_
    refine z_go 90 rfl ?_
    refine z_br rfl rfl (fun d => ?_) (fun d => ?_) <;> (try dsimp only at d)
    · rw [n_lt (by omega) (by omega)] at d
      refine z_go 90 rfl ?_
      refine z_br rfl rfl (fun _ => ?_) (fun c => absurd c (by first | decide | (dsimp only; decide)))
      refine z_go 90 rfl ?_
      refine take ?_
      unfold sNr
      dsimp only
      rw [if_pos (Or.inl d)]
    rw [n_lt (by omega) (by omega)] at d
    refine z_go 90 rfl ?_
    refine z_get zr_o rfl rfl rfl rfl ?_
    refine z_go 90 rfl ?_
    refine r_repl 6 (show sRw base sort z A N (some j) 6 = nI (sFar z (A j) (N j)) from rfl) (by decide) hr (n_add _ 6) rfl ?_
    refine z_go 90 rfl ?_
    refine z_br rfl rfl (fun e => ?_) (fun e => ?_) <;> (try dsimp only at e)
    · rw [n_eq (by omega) (by omega)] at e
      refine z_go 90 rfl ?_
      refine z_br rfl rfl (fun c => absurd c (by first | decide | (dsimp only; decide))) (fun _ => ?_)
      refine z_go 90 rfl ?_
      refine z_vret rfl rfl ⟨?_, rfl⟩
      unfold sNr
      dsimp only
      rw [if_neg (by omega)]
    rw [n_eq (by omega) (by omega)] at e
    refine z_go 90 rfl ?_
    refine z_get zr_o rfl rfl rfl rfl ?_
    refine z_go 90 rfl ?_
    refine r_repl 5 (show sRw base sort z A N (some j) 5 = nI j from rfl) (by decide) hr (n_add _ 5) rfl ?_
    refine z_go 90 rfl ?_
    refine z_cV zr_o (hreg j rfl) KX11_regionAt IX11_regionAt VX11_regionAt rfl rfl rfl PX11_regionAt rfl rfl rfl rfl ?_
    refine z_go 90 rfl ?_
    refine z_br rfl rfl (fun q => ?_) (fun q => ?_) <;> (try dsimp only at q)
    · rw [n_le (by omega) (by omega)] at q
      refine z_go 90 rfl ?_
      refine z_br rfl rfl (fun c => absurd c (by first | decide | (dsimp only; decide))) (fun _ => ?_)
      refine z_go 90 rfl ?_
      refine z_vret rfl rfl ⟨?_, rfl⟩
      unfold sNr
      dsimp only
      rw [if_neg (by omega)]
    · rw [n_le (by omega) (by omega)] at q
      refine z_go 90 rfl ?_
      refine z_br rfl rfl (fun _ => ?_) (fun c => absurd c (by first | decide | (dsimp only; decide)))
      refine z_go 90 rfl ?_
      refine take ?_
      unfold sNr
      dsimp only
      rw [if_pos (Or.inr ⟨e, by omega⟩)]
end ZNE
