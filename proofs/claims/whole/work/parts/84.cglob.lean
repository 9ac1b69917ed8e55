section ZGL
variable {X : zCx} {F : Nat → Option va_E} {o p q : Nat} {S : zS} {D : Nat → Nat → Nat} {W : Nat → Nat → Int32} {K : Nat → Nat → Nat} {h : zHp} {cc : Nat}
theorem zSt_glob (R : zSt X F o S D W K h p q) (wf : ∀ a e, h.1 a = some e → a < h.2.1) (A0 sz : Nat) (hn : sN S 7 0 ≤ 100) (hA : A0 < 2147483648) (hs : sz < 2147483648) : ∃ D' W' K', D' 1 0 = D 1 0 ∧ D' 4 0 = D 4 0 ∧ zSt X F o (zV (zV (zV S 5 (upd (S 5) (sN S 7 0) (nI A0))) 7 (fun _ => nI (sN S 7 0 + 1))) 6 (upd (S 6) (sN S 7 0) (nI sz))) D' W' K' (zPush X (znew h (.inr (8, zRgF 1 (nI (sN S 7 0)) A0 sz 0 0 [])) 7) (D 5 0) (D 6 0) (W 5 0 + 1) (sN S 7 0) (K 6 0) (zes S D K 5 0) h.2.1) (p + 2) (q + 2000) := by
  have A := R.1.2.2 5 0 (Or.inl ⟨rfl, by decide⟩)
  have hb := R.2.2.2.2
  obtain ⟨n, en⟩ : ∃ n, n = sN S 7 0 := ⟨_, rfl⟩
  rw [← en] at hn ⊢
  obtain ⟨S', eS⟩ : ∃ S', S' = zV (zV (zV S 5 (upd (S 5) n (nI A0))) 7 (fun _ => nI (n + 1))) 6 (upd (S 6) n (nI sz)) := ⟨_, rfl⟩
  have A2 : n ≤ K 6 0 := by rw [en]; exact A.2.1
  have A3 : K 6 0 ≤ 1600 := A.2.2
  obtain ⟨d', cap', hdc, w2⟩ := zW_push (X := X) (zW_new (zSt_W R) wf 7 n (.inr (8, zRgF 1 (nI n) A0 sz 0 0 [])) 7) (zwf_new wf) (r := 5) (i := 0) (n := n) (cap := K 6 0) (b := h.2.1) (mc := W 5 0 + 1) (g := zes S D K 5 0) (Or.inl (Or.inl ⟨rfl, by decide⟩)) (fun c => Or.inl (Or.inl ⟨rfl, c⟩)) A2 (fun j hj => zes_none (by rw [en] at hj; exact hj))
  have hcap : n + 1 ≤ cap' ∧ cap' ≤ 1600 := by
    rcases hdc with ⟨c1, c2, c3, c4⟩ | ⟨c1, c2, c3, c4⟩
    · omega
    · have := zgrow_l (cap := K 6 0) (by omega)
      omega
  have e7 : sN S' 7 0 = n + 1 := by
    rw [eS]
    exact n_toNat (by omega)
  rw [← eS]
  have s5 : ∀ i, sN S' 5 i = if i = n then A0 else sN S 5 i := fun i => by
    rw [eS]
    show (upd (S 5) n (nI A0) i).toInt.toNat = _
    by_cases c : i = n
    · rw [c, upd_at, if_pos rfl, n_toNat hA]
    · rw [upd_ne c, if_neg c]
      rfl
  have s6 : ∀ i, sN S' 6 i = if i = n then sz else sN S 6 i := fun i => by
    rw [eS]
    show (upd (S 6) n (nI sz) i).toInt.toNat = _
    by_cases c : i = n
    · rw [c, upd_at, if_pos rfl, n_toNat hs]
    · rw [upd_ne c, if_neg c]
      rfl
  have hS : ∀ k, zno [5, 6, 7] k → S' k = S k := fun k ⟨a, b, c, _⟩ => by
    rw [eS]
    simp only [zV, a, b, c]
  have aff : ∀ r, r < 28 → zhk [5, 6, 7] [6, 7] [5] [6] r = false → r = 5 ∨ r = 6 ∨ r = 7 := by decide
  refine ⟨u2 (u2 D 7 n h.2.1) 6 0 d', u2 W 5 0 (W 5 0 + 1), u2 K 6 0 cap', rfl, rfl, zSt_mk [5, 6, 7] [6, 7] [5] [6] R w2 hS (fun k ⟨a, b, _⟩ => by simp only [u2, a, b]) (fun k ⟨a, _⟩ => by simp only [u2, a]) (fun k ⟨a, _⟩ => by simp only [u2, a]) (zK1_u rfl (zK1_u rfl (zK1_u rfl (zK1_a (zK1_a zK1_r))))) (fun r i h28 hc hv => ?_) (fun r i h28 hc hl => ?_) rfl ?_ ?_⟩
  · rcases aff r h28 hc with rfl | rfl | rfl
    · obtain ⟨rfl, -⟩ := id hv
      refine ⟨Or.inl (Or.inl (Or.inl ⟨rfl, by decide⟩)), ?_⟩
      rw [u2_at]
      show zLc (W 5 0 + 1) d' (n + 1) = zLc (W 5 0 + 1) d' (sN S' 7 0)
      rw [e7]
    · obtain ⟨rfl, -⟩ := id hv
      refine ⟨Or.inr ⟨rfl, rfl⟩, ?_⟩
      show zOb X cap' (va_up (zes S D K 5 0) n (some h.2.1)) = zOb X cap' (zes S' (u2 (u2 D 7 n h.2.1) 6 0 d') (u2 K 6 0 cap') 5 0)
      refine congrArg (zOb X cap') (zes_push (S := S) (D := D) (K := K) (r := 5) (i := 0) (S' := S') (D' := u2 (u2 D 7 n h.2.1) 6 0 d') (K' := u2 K 6 0 cap') en.symm e7 (fun j hj => ?_) ?_)
      · show u2 D 7 n h.2.1 7 j = D 7 j
        exact u2_ni (by omega)
      · exact u2_at D 7 n h.2.1
    · have hv' : i < sN S' 7 0 := hv
      rw [e7] at hv'
      by_cases c : i = n
      · subst c
        refine ⟨Or.inl (Or.inr ⟨rfl, rfl⟩), ?_⟩
        show u2 _ 7 i _ 7 i = (Sum.inr (8, zRgF 1 (nI i) (sN S' 5 i) (sN S' 6 i) 0 0 []) : va_E)
        rw [u2_at, s5, s6, if_pos rfl, if_pos rfl]
      · have hv3 : i < sN S 7 0 := by omega
        refine ⟨Or.inl (Or.inl (Or.inl hv3)), ?_⟩
        show u2 (zTF X F S D W K) 7 n _ 7 i = (Sum.inr (8, zRgF 1 (nI i) (sN S' 5 i) (sN S' 6 i) 0 0 []) : va_E)
        rw [u2_ni (by omega), s5, s6, if_neg c, if_neg c]
        rfl
  · rcases aff r h28 hc with rfl | rfl | rfl
    · obtain ⟨rfl, -⟩ : i = 0 ∧ True := by rcases hl with ⟨z, -⟩ | ⟨z, -⟩ <;> first | exact ⟨z, trivial⟩ | omega
      exact ⟨fun z => absurd z (by show cap' ≠ 0; omega), by show sN S' 7 0 ≤ cap'; omega, hcap.2⟩
    · rcases hl with ⟨-, z⟩ | ⟨z, -⟩ <;> omega
    · rcases hl with ⟨-, z⟩ | ⟨z, -⟩ <;> omega
  · have e23 : sN S' 23 0 = sN S 23 0 := by rw [eS]; rfl
    rw [e23]
    exact R.2.2.1
  · have k24 : u2 K 6 0 cap' 24 0 = K 24 0 := rfl
    rw [k24]
    rcases hdc with ⟨c1, c2, c3, c4⟩ | ⟨c1, c2, c3, c4⟩
    · exact ⟨Nat.le_trans (Nat.le_of_eq (congrArg Prod.fst c4)) (by show h.2.1 + 1 ≤ _; omega), Nat.le_trans (Nat.le_of_eq (congrArg Prod.snd c4)) (by show h.2.2 + 7 ≤ _; omega)⟩
    · exact ⟨Nat.le_trans (Nat.le_of_eq (congrArg Prod.fst c4)) (by show h.2.1 + 1 + 1 ≤ _; omega), Nat.le_trans (Nat.le_of_eq (congrArg Prod.snd c4)) (by show h.2.2 + 7 + zgrow (K 6 0) ≤ _; omega)⟩
theorem k_nextA (G : zG X) (I : sInv S cc) (R : zSt X F o S D W K h p q) : ZM X MX3_nextAddress 3 181 [.ref (D 4 0)] h (zX h (some (.int (nI (sGat S))))) := by
  obtain ⟨I0, In, Ig, -⟩ := id I
  have g1 := Ig.1
  have h4 := R.1.1 4 0 ⟨rfl, by decide⟩
  have A : zAl X h (D 5 0) (D 6 0) (W 5 0) (sN S 7 0) (K 6 0) (zes S D K 5 0) := zRel_al R.1 (r := 5) (i := 0) (Or.inl ⟨rfl, by decide⟩)
  have l5 := sN_lt I0 (k := 5) (i := sN S 7 0 - 1) rfl
  have l6 := sN_lt I0 (k := 6) (i := sN S 7 0 - 1) rfl
  refine zm_of_z G KX3_nextAddress rfl rfl ?_
  refine z_go 90 rfl ?_
  refine z_get h4 rfl rfl rfl rfl ?_
  refine z_cV A.1 (c_size (z := .null) G A.1) KJx4a65c_size_8abf5 IJx4a65c_size_8abf5 VJx4a65c_size_8abf5 rfl rfl rfl PJx4a65c_size_8abf5 rfl rfl rfl rfl ?_
  refine z_go 90 rfl ?_
  refine z_ite (p := sN S 7 0 = 0) (fun e => ?_) (fun e => ?_)
  · rw [show sGat S = 0 from if_pos e, e]
    refine z_br rfl rfl (fun c => absurd rfl c) (fun _ => ?_)
    refine z_go 90 rfl ?_
    exact z_iret rfl rfl ⟨rfl, rfl⟩
  · rw [show sGat S = _ from if_neg e]
    refine z_br rfl rfl (fun _ => ?_) (fun c => absurd c (by
      show ¬ nI (sN S 7 0) = nI 0
      exact (fun z => e ((n_eq (by omega) (by omega)).mp z))))
    refine z_go 90 rfl ?_
    refine z_get h4 rfl rfl rfl rfl ?_
    refine z_go 90 rfl ?_
    rw [show nI (sN S 7 0) - (1 : Int32) = nI (sN S 7 0 - 1) from n_sub (b := 1) (by omega) (by omega)]
    have hk := R.1.1 7 (sN S 7 0 - 1) (show sN S 7 0 - 1 < sN S 7 0 by omega)
    refine z_cV A.1 (c_get G (b := D 7 (sN S 7 0 - 1)) (sN S 7 0 - 1) A (i_nI (by omega)) (by omega) (if_pos (by show sN S 7 0 - 1 < sN S 7 0; omega))) KJx4a65c_get_915e3 IJx4a65c_get_915e3 VJx4a65c_get_915e3 rfl rfl rfl PJx4a65c_get_915e3 rfl rfl rfl rfl ?_
    refine z_cast hk rfl rfl (by decide +kernel) ?_
    refine z_get hk rfl rfl rfl rfl ?_
    refine z_go 90 rfl ?_
    rw [show nI (sN S 5 (sN S 7 0 - 1) + sN S 6 (sN S 7 0 - 1)) + (32 : Int32) = nI (sN S 5 (sN S 7 0 - 1) + sN S 6 (sN S 7 0 - 1) + 32) from n_add _ 32]
    refine z_cN (c_up32 G (sN S 5 (sN S 7 0 - 1) + sN S 6 (sN S 7 0 - 1) + 32) (by omega)) KX10_roundUp SX10_roundUp rfl rfl PX10_roundUp rfl rfl rfl rfl ?_
    exact z_iret rfl rfl ⟨rfl, rfl⟩
theorem k_place (G : zG X) (I : sInv S cc) (R : zSt X F o S D W K h p q) (hp : p ≤ 500000 ∧ q ≤ 7000000) (sz : Nat) (hs : sz ≤ 512) : ZM X MX3_place 7 290 [.ref (D 4 0), .int (nI sz)] h (zPo X F o (some (.int (sGlobB S sz).1)) (sGlobB S sz).2 (p + 2) (q + 2000)) := by
  obtain ⟨I0, In, Ig, -⟩ := id I
  have g1 := Ig.1
  have N2 := In.2.1
  have lim := zSt_lim R hp
  have h4 := R.1.1 4 0 ⟨rfl, by decide⟩
  have A : zAl X h (D 5 0) (D 6 0) (W 5 0) (sN S 7 0) (K 6 0) (zes S D K 5 0) := zRel_al R.1 (r := 5) (i := 0) (Or.inl ⟨rfl, by decide⟩)
  have hls : zls S 5 0 := Or.inl ⟨rfl, by decide⟩
  have l5 := sN_lt I0 (k := 5) (i := sN S 7 0 - 1) rfl
  have l6 := sN_lt I0 (k := 6) (i := sN S 7 0 - 1) rfl
  have ga : sGat S ≤ 20100 := by unfold sGat; split <;> omega
  have Mm := zRel_mem R.1 In
  refine zm_of_z G KX3_place rfl rfl ?_
  refine z_wf fun wf0 _ => ?_
  have wf : ∀ a e, h.1 a = some e → a < h.2.1 := fun a e he => (wf0 a e he).2
  refine z_go 90 rfl ?_
  refine z_cV h4 (k_nextA G I R) KX3_nextAddress IX3_nextAddress VX3_nextAddress rfl rfl rfl PX3_nextAddress rfl rfl rfl rfl ?_
  refine z_go 90 rfl ?_
  rw [n_add, show nI (sGat S + sz) + (32 : Int32) = nI (sGat S + sz + 32) from n_add _ 32]
  refine z_get h4 rfl rfl rfl rfl ?_
  refine z_get Mm.1 rfl rfl rfl rfl ?_
  refine z_br rfl rfl (fun c => ?_) (fun c => ?_) <;> (try dsimp only at c)
  · rw [n_le (by omega) (by omega)] at c
    rw [show sGlobB S sz = (nI (sGat S), sGlob S sz) from if_pos c]
    have ga8 : sGat S % 8 = 0 := by unfold sGat; split <;> omega
    refine z_go 90 rfl ?_
    refine z_get h4 rfl rfl rfl rfl ?_
    refine z_new 8 (by decide) rfl rfl zn_8 ⟨by show h.2.1 + 1 ≤ _; omega, by show h.2.2 + 7 ≤ _; omega⟩ ?_
    have h4' : ∀ e k, (znew h e k).1 (D 4 0) = some (zce X S D W K 4 0) := fun e k => by
      rw [znew_ne _ _ _ (by have := wf _ _ h4; omega)]
      exact h4
    refine z_go 90 rfl ?_
    refine z_get (h4' _ _) rfl rfl rfl rfl ?_
    have A1 := fun e => zAl_new (e := e) (k := 7) A wf
    refine z_cV (A1 _).1 (c_size (z := .null) G (A1 _).1) KJx4a65c_size_8abf5 IJx4a65c_size_8abf5 VJx4a65c_size_8abf5 rfl rfl rfl PJx4a65c_size_8abf5 rfl rfl rfl rfl ?_
    refine z_go 90 rfl ?_
    refine z_cI (c_initR8 G (znew_at _ _ _) 1 (nI (sN S 7 0)) 0 (sGat S) sz) KX7_init IX7_init rfl rfl rfl rfl rfl PX7_init rfl rfl rfl rfl ?_
    rw [zset_new]
    refine z_cV (A1 _).1 (c_add G (A1 _) (znew_at _ _ _) zk8 (zEl_new (zRel_el R.1 I R.2.2.1 hls) wf) (fun e => ⟨by show h.2.1 + 1 + 1 ≤ _; omega, by show h.2.2 + 7 + zgrow (K 6 0) ≤ _; have := zgrow_l (cap := K 6 0) (by omega); omega⟩)) KJx4a65c_add_9ea2d IJx4a65c_add_9ea2d VJx4a65c_add_9ea2d rfl rfl rfl PJx4a65c_add_9ea2d rfl rfl rfl rfl ?_
    obtain ⟨D1, W1, K1, d1, d4, R1⟩ := zSt_glob R wf (sGat S) sz (by omega) (by omega) (by omega)
    have Mm1 := zRel_mem R1.1 In
    have h41 := R1.1.1 4 0 ⟨rfl, by decide⟩
    rw [d4] at h41
    refine z_go 90 rfl ?_
    refine z_get h41 rfl rfl rfl rfl ?_
    refine z_go 90 rfl ?_
    refine z_cV Mm1.1 (c_open G Mm1 (sGat S) sz (by show _ ≤ sN S 1 0; omega) ga8) KX6_open IX6_open VX6_open rfl rfl rfl PX6_open rfl rfl rfl rfl ?_
    refine z_go 90 rfl ?_
    exact z_iret rfl rfl ⟨rfl, D1, W1, K1, zSt_S R1 _⟩
  · rw [n_le (by omega) (by omega)] at c
    rw [show sGlobB S sz = (-1, S) from if_neg c]
    refine z_go 90 rfl ?_
    exact z_iret rfl rfl ⟨rfl, D, W, K, zSt_le R (by omega) (by omega)⟩
theorem k_global (G : zG X) (I : sInv S cc) (hcc : cc < 512) (R : zSt X F o S D W K h p q) (hp : p ≤ 500000 ∧ q ≤ 7000000) (n : Int32) : ZM X MX10_global 8 320 [.ref o, .int n] h (zPub X F o zIAE zIAE (.int (sGlobal S n).1) (sGlobal S n).2 (p + 30) (q + 3000)) := by
  have I' := sInv_T I 0 (by decide)
  have R' := zSt_T R 0
  have lim := zSt_limA R hp
  have t1 : (1 : Int32).toInt = 1 := rfl
  have t8 : (512 : Int32).toInt = 512 := rfl
  have h4 := R.1.1 4 0 ⟨rfl, by decide⟩
  refine zm_of_z G KX10_global rfl rfl ?_
  refine z_go 90 rfl ?_
  refine z_br rfl rfl (fun c => ?_) (fun c => ?_) <;> (try dsimp only at c)
  · rw [i_lt] at c
    rw [show sGlobal S n = (0, sThrow S 1) from if_neg (by omega)]
    refine z_go 90 rfl ?_
    refine z_cST (c_demand0 G lim) KX10_demand SX10_demand rfl rfl PX10_demand rfl rfl rfl rfl rfl ?_
    exact zPub_x R
  rw [i_lt] at c
  refine z_go 90 rfl ?_
  refine z_br rfl rfl (fun d => ?_) (fun d => ?_) <;> (try dsimp only at d)
  · rw [i_lt] at d
    rw [show sGlobal S n = (0, sThrow S 1) from if_neg (by omega)]
    refine z_go 90 rfl ?_
    refine z_cST (c_demand0 G lim) KX10_demand SX10_demand rfl rfl PX10_demand rfl rfl rfl rfl rfl ?_
    exact zPub_x R
  rw [i_lt] at d
  rw [show sGlobal S n = _ from if_pos (by omega)]
  obtain ⟨k, rfl, hk⟩ := i_nat (x := n) (by omega)
  rw [i_nI hk] at c d
  rw [n_toNat hk]
  refine z_go 90 rfl ?_
  refine z_cS (c_demand1 G 1 (by decide)) KX10_demand SX10_demand rfl rfl PX10_demand rfl rfl rfl rfl ?_
  refine z_go 90 rfl ?_
  refine z_get (zSt_0 R) rfl rfl rfl rfl ?_
  refine z_go 90 rfl ?_
  refine z_cVP h4 (k_place G I' R' hp k (by omega)) KX3_place IX3_place VX3_place rfl rfl rfl PX3_place rfl rfl rfl rfl ?_
  intro h1 P1
  refine z_iret rfl rfl (zPub_t P1 ?_)
  unfold sGlobB
  split <;> rfl
end ZGL
