theorem sRow_cong (S : zS) (r : Nat) {row row' : Nat → Int32} (h : ∀ j, j < 10 → row j = row' j) : sRow S r row = sRow S r row' := by
  unfold sRow
  refine congrArg (zV S 26) (funext fun i => ?_)
  by_cases c : r ≤ i ∧ i < r + 10
  · rw [if_pos c, if_pos c]; exact h _ (by omega)
  · rw [if_neg c, if_neg c]
noncomputable def sTRow (S : zS) (kd : Int32) (z : Int) (w many wr : Int32) : Nat → Int32 :=
  zif (z < 0 ∨ (sN S 1 0 : Int) ≤ z) (sBase kd w many wr)
    (zif (z < (sN S 1 0 / 8 : Nat)) (sRw (sBase kd w many wr) 1 z.toNat (sN S 5) (sN S 6) (sBst z.toNat (sN S 5) (sN S 6) (fun _ => True) (sN S 7 0)))
      (zif (z < (sN S 1 0 / 4 : Nat)) (sRw (sBase kd w many wr) 2 z.toNat (sN S 11) (sN S 12) (sBst z.toNat (sN S 11) (sN S 12) (fun v => v % 4 < sN S 10 (v / 4)) (4 * sN S 14 0)))
        (match sBst z.toNat (sN S 15) (sN S 16) (fun k => sN S 18 k ≠ 2) (sN S 23 0) with
          | none => sBase kd w many wr
          | some k => upd (upd (sRw (sBase kd w many wr) 3 z.toNat (sN S 15) (sN S 16) (some k)) 8 (S 21 k)) 9 (S 22 k))))
noncomputable def sTells (S : zS) (kd : Int32) (z : Int) (w many wr : Int32) : zS := sRow (zV S 27 (fun _ => nI (sN S 27 0 + 1))) (10 * sN S 27 0) (sTRow S kd z w many wr)
section ZTL
variable {X : zCx} {h : zHp} {m : Nat} {S : zS} {cc : Nat}
theorem rc_tells (G : zG X) (I : sInv S cc) (kd : Int32) (Ad : Int64) (z : Int) (w many wr : Int32) (hz : Ad.toInt = z) (hw : Ad.toInt32 = w) (hwr : wr = 0 ∨ wr = 1) : ZM X MX11_tells 2 154 [.ref m, .int kd, .long Ad, .int many, .int wr] (zr X h m S) (zX (zr X h m (sTells S kd z w many wr)) none) := by
  obtain ⟨I0, In, Ig, If, Ib, Iq, Ih, Im, Ic⟩ := id I
  obtain ⟨c1, c2, c3, c4⟩ := Ic
  obtain ⟨N1, N2, N3, N4⟩ := In
  have e27 : S 27 0 = nI (sN S 27 0) := sN_eq I0 rfl
  have e1 : S 1 0 = nI (sN S 1 0) := sN_eq I0 rfl
  have hr : 10 * sN S 27 0 + 10 ≤ 5300 := by omega
  refine zm_of_z G KX11_tells rfl rfl ?_
  refine z_go 90 rfl ?_
  refine r_v27 e27 rfl rfl rfl ?_
  refine z_go 90 rfl ?_
  rw [show nI (sN S 27 0) + (1 : Int32) = nI (sN S 27 0 + 1) from n_succ _]
  refine r_p27 rfl rfl rfl ?_
  refine z_go 90 rfl ?_
  rw [show (10 : Int32) * nI (sN S 27 0) = nI (10 * sN S 27 0) from n_mul 10 _]
  generalize hrr : 10 * sN S 27 0 = r at hr ⊢
  refine z_get zr_o rfl rfl rfl rfl ?_
  refine z_go 90 rfl ?_
  obtain ⟨S1, hS1⟩ : ∃ S1, S1 = zV S 27 (fun _ => nI (sN S 27 0 + 1)) := ⟨_, rfl⟩
  refine z_eqS (S' := sRow S1 r (fun j => S1 26 (r + j))) (by rw [sRow_0, hS1]) ?_
  refine r_rep 0 (by decide) hr rfl rfl ?_
  refine z_go 90 rfl ?_
  refine z_get zr_o rfl rfl rfl rfl ?_
  refine z_go 90 rfl ?_
  rw [hw]
  refine r_rep 1 (by decide) hr (n_add _ 1) rfl ?_
  refine z_go 90 rfl ?_
  refine z_get zr_o rfl rfl rfl rfl ?_
  refine z_go 90 rfl ?_
  refine r_rep 2 (by decide) hr (n_add _ 2) rfl ?_
  refine z_go 90 rfl ?_
  refine z_get zr_o rfl rfl rfl rfl ?_
  refine z_go 90 rfl ?_
  have cont : ∀ v : Int32, v = wr → Z X MX11_tells (2, 154, h.2.1, h.2.2) (zr X h m (sRow S1 r (upd (upd (upd (fun j => S1 26 (r + j)) 0 kd) 1 w) 2 many))) 64 [some (.ref m), some (.int kd), some (.long Ad), none, some (.int many), some (.int wr), some (.int (nI r)), none] [.int v, .int (nI r + 3), .ref (m + 20)] (zX (zr X h m (sTells S kd z w many wr)) none) := by
    rintro v rfl
    refine r_rep 3 (by decide) hr (n_add _ 3) rfl ?_
    refine z_go 90 rfl ?_
    refine z_get zr_o rfl rfl rfl rfl ?_
    refine z_go 90 rfl ?_
    refine r_rep 4 (by decide) hr (n_add _ 4) rfl ?_
    refine z_go 90 rfl ?_
    refine z_get zr_o rfl rfl rfl rfl ?_
    refine z_go 90 rfl ?_
    refine r_rep 5 (by decide) hr (n_add _ 5) rfl ?_
    refine z_go 90 rfl ?_
    refine z_get zr_o rfl rfl rfl rfl ?_
    refine z_go 90 rfl ?_
    refine r_rep 6 (by decide) hr (n_add _ 6) rfl ?_
    refine z_go 90 rfl ?_
    refine z_get zr_o rfl rfl rfl rfl ?_
    refine z_go 90 rfl ?_
    refine r_rep 7 (by decide) hr (n_add _ 7) rfl ?_
    refine z_go 90 rfl ?_
    refine z_get zr_o rfl rfl rfl rfl ?_
    refine z_go 90 rfl ?_
    refine r_rep 8 (by decide) hr (n_add _ 8) rfl ?_
    refine z_go 90 rfl ?_
    refine z_get zr_o rfl rfl rfl rfl ?_
    refine z_go 90 rfl ?_
    refine r_rep 9 (by decide) hr (n_add _ 9) rfl ?_
    refine z_go 90 rfl ?_
    refine z_eqS (S' := sRow S1 r (sBase kd w many v)) (sRow_cong _ _ fun j hj => ?_) ?_
    · have : j = 0 ∨ j = 1 ∨ j = 2 ∨ j = 3 ∨ j = 4 ∨ j = 5 ∨ j = 6 ∨ j = 7 ∨ j = 8 ∨ j = 9 := by omega
      rcases this with rfl | rfl | rfl | rfl | rfl | rfl | rfl | rfl | rfl | rfl <;> rfl
    have e1' : sRow S1 r (sBase kd w many v) 1 0 = nI (sN S 1 0) := by rw [hS1]; exact e1
    have out : (z < 0 ∨ (sN S 1 0 : Int) ≤ z) → Z X MX11_tells (2, 154, h.2.1, h.2.2) (zr X h m (sRow S1 r (sBase kd w many v))) 145 [some (.ref m), some (.int kd), some (.long Ad), none, some (.int many), some (.int v), some (.int (nI r)), none] [] (zX (zr X h m (sTells S kd z w many v)) none) := by
      intro ho
      refine z_vret rfl rfl ⟨?_, rfl⟩
      unfold sTells sTRow
      rw [zif_pos ho, hrr, hS1]
    have hn1 := l_nI (n := sN S 1 0) (by omega)
    refine z_br rfl rfl (fun c => ?_) (fun c => ?_) <;> (try dsimp only at c)
    · rw [lc_lt] at c
      have : (0 : Int64).toInt = 0 := rfl
      exact out (by omega)
    rw [lc_lt] at c
    have z0 : (0 : Int64).toInt = 0 := rfl
    refine z_go 90 rfl ?_
    refine r_v1 e1' rfl rfl rfl ?_
    refine z_go 90 rfl ?_
    refine z_br rfl rfl (fun d => ?_) (fun d => ?_) <;> (try dsimp only at d)
    case _ =>
      rw [lc_lt] at d
      have hin : ¬ (z < 0 ∨ (sN S 1 0 : Int) ≤ z) := by omega
      obtain ⟨y, hy⟩ : ∃ y : Nat, z = (y : Int) := ⟨z.toNat, by omega⟩
      subst hy
      have hy2 : y < 8192 := by omega
      refine z_go 90 rfl ?_
      refine r_v1 e1' rfl rfl rfl ?_
      refine z_go 90 rfl ?_
      refine z_div rfl (by decide) ?_
      refine z_go 90 rfl ?_
      rw [show nI (sN S 1 0) / (8 : Int32) = nI (sN S 1 0 / 8) from n_div (b := 8) (by omega) (by omega) (by omega)]
      have hn8 := l_nI (n := sN S 1 0 / 8) (by omega)
      refine z_br rfl rfl (fun e => ?_) (fun e => ?_) <;> (try dsimp only at e)
      · rw [lc_ge] at e
        refine z_go 90 rfl ?_
        refine r_v1 e1' rfl rfl rfl ?_
        refine z_go 90 rfl ?_
        refine z_div rfl (by decide) ?_
        refine z_go 90 rfl ?_
        rw [show nI (sN S 1 0) / (4 : Int32) = nI (sN S 1 0 / 4) from n_div (b := 4) (by omega) (by omega) (by omega)]
        have hn4 := l_nI (n := sN S 1 0 / 4) (by omega)
        refine z_br rfl rfl (fun q => ?_) (fun q => ?_) <;> (try dsimp only at q)
        · rw [lc_ge] at q
          have hT : sTells S kd y w many v = sRow S1 r (match sBst y (sN S 15) (sN S 16) (fun k => sN S 18 k ≠ 2) (sN S 23 0) with
              | none => sBase kd w many v
              | some k => upd (upd (sRw (sBase kd w many v) 3 y (sN S 15) (sN S 16) (some k)) 8 (S 21 k)) 9 (S 22 k)) := by
            unfold sTells sTRow
            rw [zif_neg hin, zif_neg (by omega), zif_neg (by omega), hrr, hS1]
            rfl
          rw [hT]
          refine z_go 90 rfl ?_
          have hl5 : ∀ i, sN S 15 i ≤ 20000 := fun i => by have := sN_lt I0 (k := 15) (i := i) rfl; omega
          have hl6 : ∀ i, sN S 16 i ≤ 20000 := fun i => by have := sN_lt I0 (k := 16) (i := i) rfl; omega
          refine r_v23 (show sRow S1 r (sBase kd w many v) 23 0 = nI (sN S 23 0) by rw [hS1]; exact sN_eq I0 rfl) rfl rfl rfl ?_
          refine z_go 90 rfl ?_
          generalize hQ : (match sBst y (sN S 15) (sN S 16) (fun k => sN S 18 k ≠ 2) (sN S 23 0) with
              | none => sBase kd w many v
              | some k => upd (upd (sRw (sBase kd w many v) 3 y (sN S 15) (sN S 16) (some k)) 8 (S 21 k)) 9 (S 22 k)) = RR
          have H := zdown (P := fun k => Z X MX11_tells (2, 154, h.2.1, h.2.2) (zr X h m (sRow S1 r (sRw (sBase kd w many v) 3 y (sN S 15) (sN S 16) (sBst y (sN S 15) (sN S 16) (fun k => sN S 18 k ≠ 2) k)))) 288 [some (.ref m), some (.int kd), some (.long Ad), none, some (.int many), some (.int v), some (.int (nI r)), some (.int (nI k))] [.int (nI (sN S 23 0)), .int (nI k)] (zX (zr X h m (sRow S1 r RR)) none)) (sN S 23 0) (fun k hk ih => ?_) 0 (Nat.zero_le _)
          · exact H
          refine z_br rfl rfl (fun q => ?_) (fun q => ?_) <;> (try dsimp only at q)
          · rw [n_le (by omega) (by omega)] at q
            have : k = sN S 23 0 := by omega
            subst this
            refine z_go 90 rfl ?_
            refine z_get zr_o rfl rfl rfl rfl ?_
            refine z_go 90 rfl ?_
            cases hb : sBst y (sN S 15) (sN S 16) (fun k => sN S 18 k ≠ 2) (sN S 23 0) with
            | none =>
              rw [hb] at hQ
              refine r_repl 4 (show sBase kd w many v 4 = 0 from rfl) (by decide) hr (n_add _ 4) rfl ?_
              refine z_go 90 rfl ?_
              refine z_br rfl rfl (fun _ => ?_) (fun c => absurd c (by first | decide | (dsimp only; decide)))
              refine z_go 90 rfl ?_
              exact z_vret rfl rfl ⟨by rw [← hQ]; rfl, rfl⟩
            | some j =>
              rw [hb] at hQ
              have hj := (sBst_lt hb).1
              refine r_repl 4 (show sRw (sBase kd w many v) 3 y (sN S 15) (sN S 16) (some j) 4 = 3 from rfl) (by decide) hr (n_add _ 4) rfl ?_
              refine z_go 90 rfl ?_
              refine z_br rfl rfl (fun c => absurd c (by first | decide | (dsimp only; decide))) (fun _ => ?_)
              refine z_go 90 rfl ?_
              refine z_get zr_o rfl rfl rfl rfl ?_
              refine z_go 90 rfl ?_
              refine z_get zr_o rfl rfl rfl rfl ?_
              refine z_go 90 rfl ?_
              refine z_get zr_o rfl rfl rfl rfl ?_
              refine z_go 90 rfl ?_
              refine r_repl 5 (show sRw (sBase kd w many v) 3 y (sN S 15) (sN S 16) (some j) 5 = nI j from rfl) (by decide) hr (n_add _ 5) rfl ?_
              refine z_go 90 rfl ?_
              refine r_lv21 j (show S1 21 j = S 21 j by rw [hS1]; rfl) (i_nI (by omega)) (by omega) rfl ?_
              refine z_go 90 rfl ?_
              refine r_rep 8 (by decide) hr (n_add _ 8) rfl ?_
              refine z_go 90 rfl ?_
              refine z_get zr_o rfl rfl rfl rfl ?_
              refine z_go 90 rfl ?_
              refine z_get zr_o rfl rfl rfl rfl ?_
              refine z_go 90 rfl ?_
              refine z_get zr_o rfl rfl rfl rfl ?_
              refine z_go 90 rfl ?_
              refine r_repl 5 (show sRw (sBase kd w many v) 3 y (sN S 15) (sN S 16) (some j) 5 = nI j from rfl) (by decide) hr (n_add _ 5) rfl ?_
              refine z_go 90 rfl ?_
              refine r_lv22 j (show S1 22 j = S 22 j by rw [hS1]; rfl) (i_nI (by omega)) (by omega) rfl ?_
              refine z_go 90 rfl ?_
              refine r_rep 9 (by decide) hr (n_add _ 9) rfl ?_
              refine z_go 90 rfl ?_
              exact z_vret rfl rfl ⟨by rw [← hQ], rfl⟩
          · rw [n_le (by omega) (by omega)] at q
            have hstep : sBst y (sN S 15) (sN S 16) (fun k => sN S 18 k ≠ 2) (k + 1) = zif (sN S 18 k ≠ 2) (sNr y (sN S 15) (sN S 16) (sBst y (sN S 15) (sN S 16) (fun k => sN S 18 k ≠ 2) k) k) (sBst y (sN S 15) (sN S 16) (fun k => sN S 18 k ≠ 2) k) := rfl
            have ih := ih (by omega)
            rw [hstep] at ih
            refine z_go 90 rfl ?_
            refine z_get zr_o rfl rfl rfl rfl ?_
            refine z_go 90 rfl ?_
            have l18 := sN_lt I0 (k := 18) (i := k) rfl
            refine r_lv18 k (show S1 18 k = nI (sN S 18 k) by rw [hS1]; exact sN_eq I0 rfl) (i_nI (by omega)) (by omega) rfl ?_
            refine z_go 90 rfl ?_
            refine z_br rfl rfl (fun u => ?_) (fun u => ?_) <;> (try dsimp only at u)
            · rw [show (2 : Int32) = nI 2 from rfl, n_eq (by omega) (by omega)] at u
              rw [zif_neg (by omega)] at ih
              refine z_go 90 rfl ?_
              refine r_v23 (show S1 23 0 = nI (sN S 23 0) by rw [hS1]; exact sN_eq I0 rfl) rfl rfl rfl ?_
              refine z_go 90 rfl ?_
              rw [show nI k + (1 : Int32) = nI (k + 1) from n_succ k]
              exact ih
            · rw [show (2 : Int32) = nI 2 from rfl, n_eq (by omega) (by omega)] at u
              rw [zif_pos (by omega)] at ih
              refine z_go 90 rfl ?_
              refine z_get zr_o rfl rfl rfl rfl ?_
              refine z_go 90 rfl ?_
              refine r_lv15 k (show S1 15 k = nI (sN S 15 k) by rw [hS1]; exact sN_eq I0 rfl) (i_nI (by omega)) (by omega) rfl ?_
              refine z_go 90 rfl ?_
              refine z_get zr_o rfl rfl rfl rfl ?_
              refine z_go 90 rfl ?_
              refine r_lv16 k (show S1 16 k = nI (sN S 16 k) by rw [hS1]; exact sN_eq I0 rfl) (i_nI (by omega)) (by omega) rfl ?_
              refine z_go 90 rfl ?_
              refine z_cV zr_o (rc_nearer G (sBase kd w many v) 3 Ad y k (sN S 15) (sN S 16) _ hr hz (by omega) hl5 hl6 (by decide) rfl (fun j hj => ?_)) KX11_nearer IX11_nearer VX11_nearer rfl rfl rfl PX11_nearer rfl rfl rfl rfl ?_
              · have := (sBst_lt hj).1
                rw [show nI (sN S 15 j) = sRow S1 r (sRw (sBase kd w many v) 3 y (sN S 15) (sN S 16) (sBst y (sN S 15) (sN S 16) (fun k => sN S 18 k ≠ 2) k)) 15 j from by rw [hS1]; exact (sN_eq I0 rfl).symm]
                exact rc_reg3 G j (by omega)
              refine z_go 90 rfl ?_
              refine r_v23 (show S1 23 0 = nI (sN S 23 0) by rw [hS1]; exact sN_eq I0 rfl) rfl rfl rfl ?_
              refine z_go 90 rfl ?_
              rw [show nI k + (1 : Int32) = nI (k + 1) from n_succ k]
              exact ih
        · rw [lc_ge] at q
          have hT : sTells S kd y w many v = sRow S1 r (sRw (sBase kd w many v) 2 y (sN S 11) (sN S 12) (sBst y (sN S 11) (sN S 12) (fun v => v % 4 < sN S 10 (v / 4)) (4 * sN S 14 0))) := by
            unfold sTells sTRow
            rw [zif_neg hin, zif_neg (by omega), zif_pos (by omega), hrr, hS1]
            rfl
          rw [hT]
          refine z_go 90 rfl ?_
          have hl5 : ∀ i, sN S 11 i ≤ 20000 := fun i => by have := sN_lt I0 (k := 11) (i := i) rfl; omega
          have hl6 : ∀ i, sN S 12 i ≤ 20000 := fun i => by have := sN_lt I0 (k := 12) (i := i) rfl; omega
          have f1 := If.1
          refine r_v14 (show sRow S1 r (sBase kd w many v) 14 0 = nI (sN S 14 0) by rw [hS1]; exact sN_eq I0 rfl) rfl rfl rfl ?_
          refine z_go 90 rfl ?_
          rw [show (4 : Int32) * nI (sN S 14 0) = nI (4 * sN S 14 0) from n_mul 4 _]
          have H := zdown (P := fun k => Z X MX11_tells (2, 154, h.2.1, h.2.2) (zr X h m (sRow S1 r (sRw (sBase kd w many v) 2 y (sN S 11) (sN S 12) (sBst y (sN S 11) (sN S 12) (fun v => v % 4 < sN S 10 (v / 4)) k)))) 227 [some (.ref m), some (.int kd), some (.long Ad), none, some (.int many), some (.int v), some (.int (nI r)), some (.int (nI k))] [.int (nI (4 * sN S 14 0)), .int (nI k)] (zX (zr X h m (sRow S1 r (sRw (sBase kd w many v) 2 y (sN S 11) (sN S 12) (sBst y (sN S 11) (sN S 12) (fun v => v % 4 < sN S 10 (v / 4)) (4 * sN S 14 0))))) none)) (4 * sN S 14 0) (fun k hk ih => ?_) 0 (Nat.zero_le _)
          · exact H
          refine z_br rfl rfl (fun q => ?_) (fun q => ?_) <;> (try dsimp only at q)
          · rw [n_le (by omega) (by omega)] at q
            have : k = 4 * sN S 14 0 := by omega
            subst this
            refine z_go 90 rfl ?_
            refine z_get zr_o rfl rfl rfl rfl ?_
            refine z_go 90 rfl ?_
            cases hb : sBst y (sN S 11) (sN S 12) (fun v => v % 4 < sN S 10 (v / 4)) (4 * sN S 14 0) with
            | none =>
              refine r_repl 4 (show sBase kd w many v 4 = 0 from rfl) (by decide) hr (n_add _ 4) rfl ?_
              refine z_go 90 rfl ?_
              refine z_br rfl rfl (fun _ => ?_) (fun c => absurd c (by first | decide | (dsimp only; decide)))
              refine z_go 90 rfl ?_
              exact z_vret rfl rfl ⟨rfl, rfl⟩
            | some j =>
              refine r_repl 4 (show sRw (sBase kd w many v) 2 y (sN S 11) (sN S 12) (some j) 4 = 2 from rfl) (by decide) hr (n_add _ 4) rfl ?_
              refine z_go 90 rfl ?_
              refine z_br rfl rfl (fun _ => ?_) (fun c => absurd c (by first | decide | (dsimp only; decide)))
              refine z_go 90 rfl ?_
              exact z_vret rfl rfl ⟨rfl, rfl⟩
          · rw [n_le (by omega) (by omega)] at q
            have hstep : sBst y (sN S 11) (sN S 12) (fun v => v % 4 < sN S 10 (v / 4)) (k + 1) = zif (k % 4 < sN S 10 (k / 4)) (sNr y (sN S 11) (sN S 12) (sBst y (sN S 11) (sN S 12) (fun v => v % 4 < sN S 10 (v / 4)) k) k) (sBst y (sN S 11) (sN S 12) (fun v => v % 4 < sN S 10 (v / 4)) k) := rfl
            have ih := ih (by omega)
            rw [hstep] at ih
            refine z_go 90 rfl ?_
            refine z_rem rfl (by decide) ?_
            refine z_go 90 rfl ?_
            rw [show nI k - nI k / (4 : Int32) * (4 : Int32) = nI (k % 4) from n_rem (b := 4) (by omega) (by omega) (by omega)]
            refine z_get zr_o rfl rfl rfl rfl ?_
            refine z_go 90 rfl ?_
            refine z_div rfl (by decide) ?_
            refine z_go 90 rfl ?_
            rw [show nI k / (4 : Int32) = nI (k / 4) from n_div (b := 4) (by omega) (by omega) (by omega)]
            have l10 := sN_lt I0 (k := 10) (i := k / 4) rfl
            refine r_lv10 (k / 4) (show S1 10 (k / 4) = nI (sN S 10 (k / 4)) by rw [hS1]; exact sN_eq I0 rfl) (i_nI (by omega)) (by omega) rfl ?_
            refine z_go 90 rfl ?_
            refine z_br rfl rfl (fun u => ?_) (fun u => ?_) <;> (try dsimp only at u)
            · rw [n_le (by omega) (by omega)] at u
              rw [zif_neg (by omega)] at ih
              refine z_go 90 rfl ?_
              refine r_v14 (show S1 14 0 = nI (sN S 14 0) by rw [hS1]; exact sN_eq I0 rfl) rfl rfl rfl ?_
              refine z_go 90 rfl ?_
              rw [show nI k + (1 : Int32) = nI (k + 1) from n_succ k, show (4 : Int32) * nI (sN S 14 0) = nI (4 * sN S 14 0) from n_mul 4 _]
              exact ih
            · rw [n_le (by omega) (by omega)] at u
              rw [zif_pos (by omega)] at ih
              refine z_go 90 rfl ?_
              refine z_get zr_o rfl rfl rfl rfl ?_
              refine z_go 90 rfl ?_
              refine r_lv11 k (show S1 11 k = nI (sN S 11 k) by rw [hS1]; exact sN_eq I0 rfl) (i_nI (by omega)) (by omega) rfl ?_
              refine z_go 90 rfl ?_
              refine z_get zr_o rfl rfl rfl rfl ?_
              refine z_go 90 rfl ?_
              refine r_lv12 k (show S1 12 k = nI (sN S 12 k) by rw [hS1]; exact sN_eq I0 rfl) (i_nI (by omega)) (by omega) rfl ?_
              refine z_go 90 rfl ?_
              refine z_cV zr_o (rc_nearer G (sBase kd w many v) 2 Ad y k (sN S 11) (sN S 12) _ hr hz (by omega) hl5 hl6 (by decide) rfl (fun j hj => ?_)) KX11_nearer IX11_nearer VX11_nearer rfl rfl rfl PX11_nearer rfl rfl rfl rfl ?_
              · have := (sBst_lt hj).1
                rw [show nI (sN S 11 j) = sRow S1 r (sRw (sBase kd w many v) 2 y (sN S 11) (sN S 12) (sBst y (sN S 11) (sN S 12) (fun v => v % 4 < sN S 10 (v / 4)) k)) 11 j from by rw [hS1]; exact (sN_eq I0 rfl).symm]
                exact rc_reg2 G j (by omega)
              refine z_go 90 rfl ?_
              refine r_v14 (show S1 14 0 = nI (sN S 14 0) by rw [hS1]; exact sN_eq I0 rfl) rfl rfl rfl ?_
              refine z_go 90 rfl ?_
              rw [show nI k + (1 : Int32) = nI (k + 1) from n_succ k, show (4 : Int32) * nI (sN S 14 0) = nI (4 * sN S 14 0) from n_mul 4 _]
              exact ih
      · rw [lc_ge] at e
        have hT : sTells S kd y w many v = sRow S1 r (sRw (sBase kd w many v) 1 y (sN S 5) (sN S 6) (sBst y (sN S 5) (sN S 6) (fun _ => True) (sN S 7 0))) := by
          unfold sTells sTRow
          rw [zif_neg hin, zif_pos (by omega), hrr, hS1]
          rfl
        rw [hT]
        refine z_go 90 rfl ?_
        have hl5 : ∀ i, sN S 5 i ≤ 20000 := fun i => by have := sN_lt I0 (k := 5) (i := i) rfl; omega
        have hl6 : ∀ i, sN S 6 i ≤ 20000 := fun i => by have := sN_lt I0 (k := 6) (i := i) rfl; omega
        have g1 := Ig.1
        refine r_v7 (show sRow S1 r (sBase kd w many v) 7 0 = nI (sN S 7 0) by rw [hS1]; exact sN_eq I0 rfl) rfl rfl rfl ?_
        refine z_go 90 rfl ?_
        have H := zdown (P := fun k => Z X MX11_tells (2, 154, h.2.1, h.2.2) (zr X h m (sRow S1 r (sRw (sBase kd w many v) 1 y (sN S 5) (sN S 6) (sBst y (sN S 5) (sN S 6) (fun _ => True) k)))) 168 [some (.ref m), some (.int kd), some (.long Ad), none, some (.int many), some (.int v), some (.int (nI r)), some (.int (nI k))] [.int (nI (sN S 7 0)), .int (nI k)] (zX (zr X h m (sRow S1 r (sRw (sBase kd w many v) 1 y (sN S 5) (sN S 6) (sBst y (sN S 5) (sN S 6) (fun _ => True) (sN S 7 0))))) none)) (sN S 7 0) (fun k hk ih => ?_) 0 (Nat.zero_le _)
        · exact H
        refine z_br rfl rfl (fun q => ?_) (fun q => ?_) <;> (try dsimp only at q)
        · rw [n_le (by omega) (by omega)] at q
          have : k = sN S 7 0 := by omega
          subst this
          refine z_go 90 rfl ?_
          refine z_get zr_o rfl rfl rfl rfl ?_
          refine z_go 90 rfl ?_
          cases hb : sBst y (sN S 5) (sN S 6) (fun _ => True) (sN S 7 0) with
          | none =>
            refine r_repl 4 (show sBase kd w many v 4 = 0 from rfl) (by decide) hr (n_add _ 4) rfl ?_
            refine z_go 90 rfl ?_
            refine z_br rfl rfl (fun _ => ?_) (fun c => absurd c (by first | decide | (dsimp only; decide)))
            refine z_go 90 rfl ?_
            exact z_vret rfl rfl ⟨rfl, rfl⟩
          | some j =>
            refine r_repl 4 (show sRw (sBase kd w many v) 1 y (sN S 5) (sN S 6) (some j) 4 = 1 from rfl) (by decide) hr (n_add _ 4) rfl ?_
            refine z_go 90 rfl ?_
            refine z_br rfl rfl (fun _ => ?_) (fun c => absurd c (by first | decide | (dsimp only; decide)))
            refine z_go 90 rfl ?_
            exact z_vret rfl rfl ⟨rfl, rfl⟩
        · rw [n_le (by omega) (by omega)] at q
          refine z_go 90 rfl ?_
          refine z_get zr_o rfl rfl rfl rfl ?_
          refine z_go 90 rfl ?_
          refine r_lv5 k (show S1 5 k = nI (sN S 5 k) by rw [hS1]; exact sN_eq I0 rfl) (i_nI (by omega)) (by omega) rfl ?_
          refine z_go 90 rfl ?_
          refine z_get zr_o rfl rfl rfl rfl ?_
          refine z_go 90 rfl ?_
          refine r_lv6 k (show S1 6 k = nI (sN S 6 k) by rw [hS1]; exact sN_eq I0 rfl) (i_nI (by omega)) (by omega) rfl ?_
          refine z_go 90 rfl ?_
          refine z_cV zr_o (rc_nearer G (sBase kd w many v) 1 Ad y k (sN S 5) (sN S 6) _ hr hz (by omega) hl5 hl6 (by decide) rfl (fun j hj => ?_)) KX11_nearer IX11_nearer VX11_nearer rfl rfl rfl PX11_nearer rfl rfl rfl rfl ?_
          · have := (sBst_lt hj).1
            rw [show nI (sN S 5 j) = sRow S1 r (sRw (sBase kd w many v) 1 y (sN S 5) (sN S 6) (sBst y (sN S 5) (sN S 6) (fun _ => True) k)) 5 j from by rw [hS1]; exact (sN_eq I0 rfl).symm]
            exact rc_reg1 G j (by omega)
          refine z_go 90 rfl ?_
          refine r_v7 (show S1 7 0 = nI (sN S 7 0) by rw [hS1]; exact sN_eq I0 rfl) rfl rfl rfl ?_
          refine z_go 90 rfl ?_
          rw [show nI k + (1 : Int32) = nI (k + 1) from n_succ k]
          have hstep : sBst y (sN S 5) (sN S 6) (fun _ => True) (k + 1) = sNr y (sN S 5) (sN S 6) (sBst y (sN S 5) (sN S 6) (fun _ => True) k) k := by
            show zif _ _ _ = _
            rw [zif_pos trivial]
          rw [← hstep]
          exact ih (by omega)
    · rw [lc_lt] at d
      exact out (by omega)
  rcases hwr with rfl | rfl
  · refine z_br rfl rfl (fun _ => ?_) (fun c => absurd c (by first | decide | (dsimp only; decide)))
    refine z_go 90 rfl ?_
    exact cont 0 rfl
  · refine z_br rfl rfl (fun c => absurd c (by first | decide | (dsimp only; decide))) (fun _ => ?_)
    refine z_go 90 rfl ?_
    exact cont 1 rfl
end ZTL
