section ZLO
variable {X : zCx} {o m oa b L fc fd : Nat} {xs : Nat → Int32} {Q : zRs → zHp → Prop}
theorem lw_loop (G : zG X) (hS : zScr X b L xs) (hL : L ≤ 2562) (mo : m + 23 ≤ oa) (hQ : ∀ h', Q (.inl (some (.int 1))) h') : ∀ c, c ≤ 512 → ∀ (S : zS) (h : zHp) (g : Nat → Int64) (D : Nat → Nat → Nat) (W : Nat → Nat → Int32) (K : Nat → Nat → Nat) (l5 l6 l7 : Option Value), sInv S c → zSt X (zFu (zRf X S m) oa (zJ X 1 g)) o S D W K h (100 + 30 * c) (40000 + 4000 * c) → Z X ML_law (14, 532, fc, fd) h 46 [some (.ref b), some (.ref o), some (.ref m), some (.ref oa), some (.int (nI (2 + 5 * c))), l5, l6, l7] [.ref b, .int (nI (2 + 5 * c))] Q := by
  have t5 : (5 : Int32).toInt = 5 := rfl
  have tL := i_nI (n := L) (by omega)
  have ts : (nI L - (5 : Int32)).toInt = (L : Int) - 5 := by rw [i_sub (by omega) (by omega), tL, t5]
  refine zdown (P := fun c => ∀ (S : zS) (h : zHp) (g : Nat → Int64) (D : Nat → Nat → Nat) (W : Nat → Nat → Int32) (K : Nat → Nat → Nat) (l5 l6 l7 : Option Value), sInv S c → zSt X (zFu (zRf X S m) oa (zJ X 1 g)) o S D W K h (100 + 30 * c) (40000 + 4000 * c) → Z X ML_law (14, 532, fc, fd) h 46 [some (.ref b), some (.ref o), some (.ref m), some (.ref oa), some (.int (nI (2 + 5 * c))), l5, l6, l7] [.ref b, .int (nI (2 + 5 * c))] Q) 512 (fun c hc ih S h g D W K l5 l6 l7 I R => ?_)
  have tc := i_nI (n := 2 + 5 * c) (by omega)
  refine z_slen hS rfl ?_
  refine z_go 90 rfl ?_
  refine z_br rfl rfl (fun d => ?_) (fun d => ?_) <;> (try dsimp only at d)
  · refine z_go 90 rfl ?_
    exact z_zret rfl rfl rfl (hQ _)
  rw [i_lt, ts, tc] at d
  have ih := ih (by omega)
  have nxt : ∀ (S1 : zS) (h1 : zHp) (g1 : Nat → Int64) (D1 : Nat → Nat → Nat) (W1 : Nat → Nat → Int32) (K1 : Nat → Nat → Nat) (l5 l6 l7 : Option Value), sInv S1 (c + 1) → zSt X (zFu (zRf X S1 m) oa (zJ X 1 g1)) o S1 D1 W1 K1 h1 (100 + 30 * c + 30) (40000 + 4000 * c + 4000) → Z X ML_law (14, 532, fc, fd) h1 46 [some (.ref b), some (.ref o), some (.ref m), some (.ref oa), some (.int (nI (2 + 5 * (c + 1)))), l5, l6, l7] [.ref b, .int (nI (2 + 5 * (c + 1)))] Q := fun S1 h1 g1 D1 W1 K1 l5 l6 l7 I1 R1 => ih S1 h1 g1 D1 W1 K1 l5 l6 l7 I1 (zSt_le R1 (by omega) (by omega))
  refine z_go 90 rfl ?_
  refine z_sld (2 + 5 * c) hS rfl tc (by omega) ?_
  refine z_go 90 rfl ?_
  by_cases e0 : (xs (2 + 5 * c) &&& 31).toInt = 0
  · refine z_swI 168 0 rfl e0 (by decide) (by decide) rfl rfl ?_
    exact lw_global G hS hL (by omega) I (by omega) mo R (by omega) nxt _ _ _
  by_cases e1 : (xs (2 + 5 * c) &&& 31).toInt = 1
  · refine z_swI 224 1 rfl e1 (by decide) (by decide) rfl rfl ?_
    exact lw_enter G hS hL (by omega) I (by omega) mo R (by omega) nxt _ _ _
  by_cases e2 : (xs (2 + 5 * c) &&& 31).toInt = 2
  · refine z_swI 316 2 rfl e2 (by decide) (by decide) rfl rfl ?_
    exact lw_leave G hS hL (by omega) I (by omega) mo R (by omega) nxt _ _ _
  by_cases e3 : (xs (2 + 5 * c) &&& 31).toInt = 3
  · refine z_swI 360 3 rfl e3 (by decide) (by decide) rfl rfl ?_
    exact lw_scope G hS hL (by omega) I (by omega) mo R (by omega) nxt _ _ _
  by_cases e4 : (xs (2 + 5 * c) &&& 31).toInt = 4
  · refine z_swI 463 4 rfl e4 (by decide) (by decide) rfl rfl ?_
    exact lw_variable G hS hL (by omega) I (by omega) mo R (by omega) nxt _ _ _
  by_cases e5 : (xs (2 + 5 * c) &&& 31).toInt = 5
  · refine z_swI 531 5 rfl e5 (by decide) (by decide) rfl rfl ?_
    exact lw_allocate G hS hL (by omega) I (by omega) mo R (by omega) nxt _ _ _
  by_cases e6 : (xs (2 + 5 * c) &&& 31).toInt = 6
  · refine z_swI 611 6 rfl e6 (by decide) (by decide) rfl rfl ?_
    exact lw_free G hS hL (by omega) I (by omega) mo R (by omega) nxt _ _ _
  by_cases e7 : (xs (2 + 5 * c) &&& 31).toInt = 7
  · refine z_swI 698 7 rfl e7 (by decide) (by decide) rfl rfl ?_
    exact lw_resize G hS hL (by omega) I (by omega) mo R (by omega) nxt _ _ _
  by_cases e8 : (xs (2 + 5 * c) &&& 31).toInt = 8
  · refine z_swI 778 8 rfl e8 (by decide) (by decide) rfl rfl ?_
    exact lw_load G hS hL (by omega) I (by omega) mo R (by omega) nxt _ _ _
  by_cases e9 : (xs (2 + 5 * c) &&& 31).toInt = 9
  · refine z_swI 845 9 rfl e9 (by decide) (by decide) rfl rfl ?_
    exact lw_store G hS hL (by omega) I (by omega) mo R (by omega) nxt _ _ _
  by_cases e10 : (xs (2 + 5 * c) &&& 31).toInt = 10
  · refine z_swI 964 10 rfl e10 (by decide) (by decide) rfl rfl ?_
    exact lw_fill G hS hL (by omega) I (by omega) mo R (by omega) nxt _ _ _
  by_cases e11 : (xs (2 + 5 * c) &&& 31).toInt = 11
  · refine z_swI 1051 11 rfl e11 (by decide) (by decide) rfl rfl ?_
    exact lw_copy G hS hL (by omega) I (by omega) mo R (by omega) nxt _ _ _
  by_cases e12 : (xs (2 + 5 * c) &&& 31).toInt = 12
  · refine z_swI 1166 12 rfl e12 (by decide) (by decide) rfl rfl ?_
    exact lw_length G hS hL (by omega) I (by omega) mo R (by omega) nxt _ _ _
  by_cases e13 : (xs (2 + 5 * c) &&& 31).toInt = 13
  · refine z_swI 1191 13 rfl e13 (by decide) (by decide) rfl rfl ?_
    exact lw_text G hS hL (by omega) I (by omega) mo R (by omega) nxt _ _ _
  by_cases e14 : (xs (2 + 5 * c) &&& 31).toInt = 14
  · refine z_swI 1228 14 rfl e14 (by decide) (by decide) rfl rfl ?_
    exact lw_compare G hS hL (by omega) I (by omega) mo R (by omega) nxt _ _ _
  by_cases e15 : (xs (2 + 5 * c) &&& 31).toInt = 15
  · refine z_swI 1308 15 rfl e15 (by decide) (by decide) rfl rfl ?_
    exact lw_lock G hS hL (by omega) I (by omega) mo R (by omega) nxt _ _ _
  by_cases e16 : (xs (2 + 5 * c) &&& 31).toInt = 16
  · refine z_swI 1376 16 rfl e16 (by decide) (by decide) rfl rfl ?_
    exact lw_unlock G hS hL (by omega) I (by omega) mo R (by omega) nxt _ _ _
  by_cases e17 : (xs (2 + 5 * c) &&& 31).toInt = 17
  · refine z_swI 1444 17 rfl e17 (by decide) (by decide) rfl rfl ?_
    exact lw_report G hS hL (by omega) I (by omega) mo R (by omega) nxt _ _ _
  by_cases e18 : (xs (2 + 5 * c) &&& 31).toInt = 18
  · refine z_swI 1512 18 rfl e18 (by decide) (by decide) rfl rfl ?_
    exact lw_block G hS hL (by omega) I (by omega) mo R (by omega) nxt _ _ _
  by_cases e19 : (xs (2 + 5 * c) &&& 31).toInt = 19
  · refine z_swI 1580 19 rfl e19 (by decide) (by decide) rfl rfl ?_
    exact lw_shadow G hS hL (by omega) I (by omega) mo R (by omega) nxt _ _ _
  by_cases e20 : (xs (2 + 5 * c) &&& 31).toInt = 20
  · refine z_swI 1636 20 rfl e20 (by decide) (by decide) rfl rfl ?_
    exact lw_peek G hS hL (by omega) I (by omega) mo R (by omega) nxt _ _ _
  by_cases e21 : (xs (2 + 5 * c) &&& 31).toInt = 21
  · refine z_swI 1692 21 rfl e21 (by decide) (by decide) rfl rfl ?_
    exact lw_held G hS hL (by omega) I (by omega) mo R (by omega) nxt _ _ _
  by_cases e22 : (xs (2 + 5 * c) &&& 31).toInt = 22
  · refine z_swI 1748 22 rfl e22 (by decide) (by decide) rfl rfl ?_
    exact lw_lost G hS hL (by omega) I (by omega) mo R (by omega) nxt _ _ _
  by_cases e23 : (xs (2 + 5 * c) &&& 31).toInt = 23
  · refine z_swI 1801 23 rfl e23 (by decide) (by decide) rfl rfl ?_
    exact lw_told G hS hL (by omega) I (by omega) mo R (by omega) nxt _ _ _
  refine z_swO 1857 rfl (by show (xs (2 + 5 * c) &&& 31).toInt < 0 ∨ 23 < (xs (2 + 5 * c) &&& 31).toInt; omega) rfl ?_
  refine z_go 90 rfl ?_
  rw [n_5]
  exact nxt _ _ _ _ _ _ _ _ _ (sInv_more I (by omega) (by omega)) (zSt_le R (by omega) (by omega))
theorem c_cell (G : zG X) (hS : zScr X b L xs) (hL : L ≤ 2562) (k : Nat) (hk : k ≤ 10) {h : zHp} : ZM X ML_cell 0 100 [.ref b, .int (nI k)] h (zX h (some (.int (if k < L then xs k else 0)))) := by
  refine zm_of_z G KL_cell rfl rfl ?_
  refine z_go 90 rfl ?_
  refine z_slen hS rfl ?_
  refine z_br rfl rfl (fun c => ?_) (fun c => ?_) <;> (try dsimp only at c)
  · rw [n_le (by omega) (by omega)] at c
    refine z_go 90 rfl ?_
    exact z_iret rfl rfl ⟨rfl, by rw [if_neg (by omega)]⟩
  · rw [n_le (by omega) (by omega)] at c
    refine z_go 90 rfl ?_
    refine z_sld k hS rfl (i_nI (by omega)) (by omega) ?_
    refine z_go 90 rfl ?_
    exact z_iret rfl rfl ⟨rfl, by rw [if_pos (by omega)]⟩
theorem z_cIP {M : zMI} {f : zFr} {h : zHp} {pc : Nat} {Lc : zLo} {P : zHp → Prop} {M' : zMI} {fr lo b : Nat} {As st stk : List Value} {p0 idx nx t : Nat} {lv : Int32} (hM : ZM X M' fr lo (.ref b :: As) h (fun r h' => r = .inl none ∧ P h')) (hK : zMK M') (hin : Jvm.Cond.instanceMethod (zNm M') ∈ lw_tbl) (hhh : zHh M' = []) (hrn : zRt M' = none) (hnm : (zNm M').name = "<init>") (hf : zlk (zFt M) pc = some (p0, .invokespecial idx, nx, lv, t)) (hr : zML[t]? = some ((zNm M).cls, idx, zNm M')) (hln : (parseMethodDescriptor (zNm M').desc).map (fun d => d.parameters.length) = some As.length) (hfr : Nat.ble (fr + 1) f.1 = true) (hlc : Nat.ble (8 + (zNL M' + 11) + lo) f.2.1 = true) (hstk : zap (.ref b :: As) st = stk) (hw : Nat.ble (zcat st) 8 = true)
    (kk : ∀ h', P h' → Z X M f h' nx Lc st Q) : Z X M f h pc Lc stk Q :=
  z_invI hM hK hhh hrn hnm hin hf hr hln hfr hlc hstk hw (fun v' h' q => by obtain ⟨q1, q2⟩ := q; cases q1; exact kk h' q2) (fun E h' q => by cases q.1)
theorem zn_12 (j : Nat) (hj : j < (zcl 12).2.2.1) : defaultValue ((zcl 12).2.2.2 j) = vp_V zf0 j := by
  have hj : j < 30 := hj
  match j, hj with
  | 0, _ => rfl
  | 1, _ => rfl
  | 2, _ => rfl
  | 3, _ => rfl
  | 4, _ => rfl
  | 5, _ => rfl
  | 6, _ => rfl
  | 7, _ => rfl
  | 8, _ => rfl
  | 9, _ => rfl
  | 10, _ => rfl
  | 11, _ => rfl
  | 12, _ => rfl
  | 13, _ => rfl
  | 14, _ => rfl
  | 15, _ => rfl
  | 16, _ => rfl
  | 17, _ => rfl
  | 18, _ => rfl
  | 19, _ => rfl
  | 20, _ => rfl
  | 21, _ => rfl
  | 22, _ => rfl
  | 23, _ => rfl
  | 24, _ => rfl
  | 25, _ => rfl
  | 26, _ => rfl
  | 27, _ => rfl
  | 28, _ => rfl
  | 29, _ => rfl
  | n + 30, hj => exact absurd hj (by omega)
theorem lw_main (G : zG X) (hS : zScr X b L xs) (hL : L ≤ 2562) (hQ : ∀ h', Q (.inl (some (.int 1))) h') : Z X ML_law (14, 532, zB X, 0) (fun _ => none, zB X, 0) 0 [some (.ref b), none, none, none, none, none, none, none] [] Q := by
  refine z_new 11 (by decide) rfl rfl zn_11 ⟨by show zB X + 1 ≤ _; omega, by show 0 + 6 ≤ _; omega⟩ ?_
  refine z_go 90 rfl ?_
  refine z_cS (c_cell G hS hL 0 (by omega)) KL_cell SL_cell rfl rfl PL_cell rfl rfl rfl rfl ?_
  refine z_go 90 rfl ?_
  refine z_cS (c_cell G hS hL 1 (by omega)) KL_cell SL_cell rfl rfl PL_cell rfl rfl rfl rfl ?_
  refine z_cIP (k_init (F := fun _ => none) G (if 0 < L then xs 0 else 0) (if 1 < L then xs 1 else 0) (znew_at _ _ _) (fun a e he => by cases he) 15 10006 (by show zB X + 1 + 14 ≤ _; omega) (by show 0 + 6 + 10000 ≤ _; omega) (by omega)) KX10_init IX10_init rfl rfl rfl rfl rfl PX10_init rfl rfl rfl rfl ?_
  rintro h2 ⟨D, W, K, R⟩
  generalize hp9 : (if 0 < L then xs 0 else 0) = p9 at R ⊢
  generalize hq9 : (if 1 < L then xs 1 else 0) = q9 at R ⊢
  have hb := R.2.2.2.2
  have k24 := zSt_24 R
  refine z_wf fun wf9 _ => ?_
  have wf : ∀ a e, h2.1 a = some e → a < h2.2.1 := fun a e he => (wf9 a e he).2
  refine z_go 90 rfl ?_
  refine z_new 12 (by decide) rfl rfl zn_12 ⟨by show h2.2.1 + 1 ≤ _; omega, by show h2.2.2 + 30 ≤ _; omega⟩ ?_
  refine z_go 90 rfl ?_
  refine z_cS (c_cell G hS hL 0 (by omega)) KL_cell SL_cell rfl rfl PL_cell rfl rfl rfl rfl ?_
  refine z_go 90 rfl ?_
  refine z_cS (c_cell G hS hL 1 (by omega)) KL_cell SL_cell rfl rfl PL_cell rfl rfl rfl rfl ?_
  rw [hp9, hq9]
  refine z_cI (rc_init G p9 q9 ⟨by omega, by omega⟩) KX11_init IX11_init rfl rfl rfl rfl rfl PX11_init rfl rfl rfl rfl ?_
  refine z_go 90 rfl ?_
  refine z_newJ 1 rfl rfl (by decide) ⟨by show h2.2.1 + 23 + 1 ≤ _; omega, by show h2.2.2 + 28378 + 1 ≤ _; omega⟩ ?_
  refine z_go 90 rfl ?_
  refine lw_loop (m := h2.2.1) (oa := h2.2.1 + 23) (o := zB X) G hS hL (Nat.le_refl _) hQ 0 (by omega) (sIni p9 q9) _ (fun _ => 0) D W K _ _ _ (sIni_inv p9 q9) ?_
  have lt : ∀ r i, zvd (sIni p9 q9) K r i → D r i < h2.2.1 := fun r i v => wf _ _ (R.1.1 r i v)
  obtain ⟨⟨R1, R2, R3⟩, R4, R5, R6, R7⟩ := R
  refine ⟨⟨fun r i v => ?_, R2, R3⟩, R4, R5, fun a e he => ?_, by show h2.2.1 + 23 + 1 ≤ _; omega, by show h2.2.2 + 28378 + 1 ≤ _; omega⟩
  · have l := lt r i v
    rw [znew_ne _ _ _ (by show D r i ≠ h2.2.1 + 23; omega)]
    show (if h2.2.1 ≤ D r i ∧ D r i < h2.2.1 + 23 then _ else h2.1 (D r i)) = _
    rw [if_neg (by omega)]
    exact R1 r i v
  · unfold zFu at he
    by_cases c : a = h2.2.1 + 23
    · rw [if_pos c] at he
      cases he
      rw [c]
      exact ⟨znew_at _ _ _, fun r i v => by have := lt r i v; omega⟩
    · rw [if_neg c] at he
      unfold zRf at he
      by_cases d : h2.2.1 ≤ a ∧ a < h2.2.1 + 23
      · rw [if_pos d] at he
        rw [znew_ne _ _ _ (by show a ≠ h2.2.1 + 23; omega)]
        refine ⟨?_, fun r i v => by have := lt r i v; omega⟩
        show (if h2.2.1 ≤ a ∧ a < h2.2.1 + 23 then zrc X (sIni p9 q9) h2.2.1 (a - h2.2.1) else h2.1 a) = _
        rw [if_pos d, he]
      · rw [if_neg d] at he
        cases he
end ZLO
