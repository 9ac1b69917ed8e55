section ZSC
variable {X : zCx} {F : Nat → Option va_E} {o p q : Nat} {S : zS} {D : Nat → Nat → Nat} {W : Nat → Nat → Int32} {K : Nat → Nat → Nat} {h : zHp} {cc : Nat}
/-- a variable's scope is changed -/
theorem zSt_V (R : zSt X F o S D W K h p q) {v : Nat} (hv : zvd S K 14 v) (x : Int32) : zSt X F o (zV S 13 (upd (S 13) v x)) D W K (zset h (D 14 v) (.inr (10, zRgF 2 (nI v) (sN S 11 v) (sN S 12 v) 0 0 [.int (nI (1 - x.toInt.toNat))]))) p q := by
  refine zSt_mk [13] [] [] [] R (zW_put (zSt_W R) (r := 14) (i := v) (Or.inl hv) _) (fun k ⟨a, _⟩ => by simp only [zV, a]) (fun _ _ => rfl) (fun _ _ => rfl) (fun _ _ => rfl) (zK1_u rfl zK1_r) (fun r i h28 hc hv' => ?_) (fun r i h28 hc hl => ?_) rfl R.2.2.1 R.2.2.2.2
  · have e : r = 14 := (by decide : ∀ r, r < 28 → zhk [13] [] [] [] r = false → r = 14) r h28 hc
    subst e
    have e13 : ∀ i, sN (zV S 13 (upd (S 13) v x)) 13 i = (upd (S 13) v x i).toInt.toNat := fun _ => rfl
    by_cases c : i = v
    · subst c
      refine ⟨Or.inl hv', ?_⟩
      rw [u2_at]
      show _ = (Sum.inr (10, zRgF 2 (nI i) (sN S 11 i) (sN S 12 i) 0 0 [.int (nI (1 - (upd (S 13) i x i).toInt.toNat))]) : va_E)
      rw [upd_at]
    · refine ⟨Or.inl hv', ?_⟩
      rw [u2_ni (by omega)]
      show (Sum.inr (10, zRgF 2 (nI i) (sN S 11 i) (sN S 12 i) 0 0 [.int (nI (1 - (S 13 i).toInt.toNat))]) : va_E) = .inr (10, zRgF 2 (nI i) (sN S 11 i) (sN S 12 i) 0 0 [.int (nI (1 - (upd (S 13) v x i).toInt.toNat))])
      rw [upd_ne c]
  · have e : r = 14 := (by decide : ∀ r, r < 28 → zhk [13] [] [] [] r = false → r = 14) r h28 hc
    subst e
    rcases hl with ⟨-, z⟩ | ⟨z, -⟩ <;> omega
theorem k_setScope1 (G : zG X) (I : sInv S cc) (R : zSt X F o S D W K h p q) {f j : Nat} (hf : f < sN S 14 0) (hj : j < sN S 10 f) (w : Int32) (hw : w = 0 ∨ w = 1) (he : S 13 (4 * f + j) = w) : ZM X MX2_setScope 3 190 [.ref (D 8 0), .ref (D 14 (4 * f + j)), .int w] h (zPo X F o (some (.int 1)) (if w = 0 then sPaint (zV S 13 (upd (S 13) (4 * f + j) 1)) (sN S 11 (4 * f + j)) (sN S 11 (4 * f + j) + sN S 12 (4 * f + j)) 248 else sOpen (zV S 13 (upd (S 13) (4 * f + j) 0)) (sN S 11 (4 * f + j)) (sN S 12 (4 * f + j))) p q) := by
  obtain ⟨I0, In, Ig, If, -⟩ := id I
  have f1 := If.1
  have f2 := If.2 f hf
  obtain ⟨v1, v2, v3, v4, v5, v6⟩ := f2.2.2.2.2.2.2.2.2 j hj
  have v4' := f2.2.2.2.2.2.2.2.1
  have hpd : sN S 12 (4 * f + j) ≤ sPad (sN S 12 (4 * f + j)) := by unfold sPad; omega
  have h9 : sN S 9 f ≤ sN S 1 0 := by
    have q4 := f2.2.2.2.1
    by_cases c : f = 0
    · rw [if_pos c] at q4; omega
    · rw [if_neg c] at q4
      have := (If.2 (f - 1) (by omega)).2.1
      omega
  have hvd : zvd S K 14 (4 * f + j) := ⟨by omega, by
    rw [show (4 * f + j) % 4 = j by omega, show (4 * f + j) / 4 = f by omega]
    omega⟩
  have hk := R.1.1 14 (4 * f + j) hvd
  have h8 := R.1.1 8 0 ⟨rfl, by decide⟩
  have hne : D 8 0 ≠ D 14 (4 * f + j) := fun z => by have := (R.1.2.1 8 0 14 (4 * f + j) ⟨rfl, by decide⟩ hvd z).1; omega
  have e13 : sN S 13 (4 * f + j) = w.toInt.toNat := by unfold sN; rw [he]
  have hk' : h.1 (D 14 (4 * f + j)) = some (.inr (10, zRgF 2 (nI (4 * f + j)) (sN S 11 (4 * f + j)) (sN S 12 (4 * f + j)) 0 0 [.int (nI (1 - w.toInt.toNat))])) := by
    rw [← e13]
    exact hk
  refine zm_of_z G KX2_setScope rfl rfl ?_
  refine z_go 90 rfl ?_
  refine z_get hk' rfl rfl rfl rfl ?_
  refine z_go 90 rfl ?_
  rcases hw with rfl | rfl
  · have R1 := zSt_V R hvd 1
    have Mm := zRel_mem R1.1 In
    refine z_br rfl rfl (fun _ => ?_) (fun c => absurd c (by first | decide | (dsimp only; decide)))
    refine z_go 90 rfl ?_
    refine z_put hk' rfl rfl rfl rfl rfl rfl (by simp) ?_
    refine z_go 90 rfl ?_
    refine z_br rfl rfl (fun _ => ?_) (fun c => absurd c (by first | decide | (dsimp only; decide)))
    refine z_go 90 rfl ?_
    refine z_get (show (zset h _ _).1 (D 8 0) = _ by rw [zset_ne _ _ hne]; exact h8) rfl rfl rfl rfl ?_
    refine z_go 90 rfl ?_
    refine z_get (zset_at _ _ _) rfl rfl rfl rfl ?_
    refine z_go 90 rfl ?_
    refine z_get (zset_at _ _ _) rfl rfl rfl rfl ?_
    refine z_go 90 rfl ?_
    refine z_cV Mm.1 (c_paint G Mm (sN S 11 (4 * f + j)) (sN S 12 (4 * f + j)) 248 (by show _ ≤ sN S 1 0; omega)) KX6_paint IX6_paint VX6_paint rfl rfl rfl PX6_paint rfl rfl rfl rfl ?_
    refine z_go 90 rfl ?_
    exact z_zret rfl rfl rfl ⟨rfl, D, W, K, zSt_S R1 _⟩
  · have R1 := zSt_V R hvd 0
    have Mm := zRel_mem R1.1 In
    refine z_br rfl rfl (fun _ => ?_) (fun c => absurd c (by first | decide | (dsimp only; decide)))
    refine z_go 90 rfl ?_
    refine z_put hk' rfl rfl rfl rfl rfl rfl (by simp) ?_
    refine z_go 90 rfl ?_
    refine z_br rfl rfl (fun c => absurd c (by first | decide | (dsimp only; decide))) (fun _ => ?_)
    refine z_go 90 rfl ?_
    refine z_get (show (zset h _ _).1 (D 8 0) = _ by rw [zset_ne _ _ hne]; exact h8) rfl rfl rfl rfl ?_
    refine z_go 90 rfl ?_
    refine z_get (zset_at _ _ _) rfl rfl rfl rfl ?_
    refine z_go 90 rfl ?_
    refine z_get (zset_at _ _ _) rfl rfl rfl rfl ?_
    refine z_cV Mm.1 (c_open G Mm (sN S 11 (4 * f + j)) (sN S 12 (4 * f + j)) (by show _ ≤ sN S 1 0; omega) v1) KX6_open IX6_open VX6_open rfl rfl rfl PX6_open rfl rfl rfl rfl ?_
    refine z_go 90 rfl ?_
    exact z_zret rfl rfl rfl ⟨rfl, D, W, K, zSt_S R1 _⟩
theorem k_setScope0 (G : zG X) (I : sInv S cc) (R : zSt X F o S D W K h p q) {v : Nat} (hvd : zvd S K 14 v) (hs : sN S 13 v ≤ 1) (w : Int32) (hw : w = 0 ∨ w = 1) (he : S 13 v ≠ w) : ZM X MX2_setScope 3 190 [.ref (D 8 0), .ref (D 14 v), .int w] h (zX h (some (.int 0))) := by
  have hk := R.1.1 14 v hvd
  have e13 := sN_eq I.1 (k := 13) (i := v) rfl
  refine zm_of_z G KX2_setScope rfl rfl ?_
  refine z_go 90 rfl ?_
  refine z_get hk rfl rfl rfl rfl ?_
  refine z_go 90 rfl ?_
  have e : nI (1 - sN S 13 v) = w := by
    rw [e13] at he
    have : sN S 13 v = 0 ∨ sN S 13 v = 1 := by omega
    rcases this with z | z
    · rw [z] at he ⊢
      rcases hw with rfl | rfl
      · exact absurd rfl he
      · rfl
    · rw [z] at he ⊢
      rcases hw with rfl | rfl
      · rfl
      · exact absurd rfl he
  rw [e]
  refine z_br rfl rfl (fun c => absurd rfl c) (fun _ => ?_)
  refine z_go 90 rfl ?_
  exact z_zret rfl rfl rfl ⟨rfl, rfl⟩
theorem k_scope (G : zG X) (I : sInv S cc) (hcc : cc < 512) (R : zSt X F o S D W K h p q) (hp : p ≤ 500000 ∧ q ≤ 7000000) (a b w : Int32) (hw : w = 0 ∨ w = 1) : ZM X MX10_scope 8 320 [.ref o, .int a, .int b, .int w] h (zPub X F o zIOE zIOE (.int (sScope S a b w).1) (sScope S a b w).2 (p + 30) (q + 3000)) := by
  have I' := sInv_T I 0 (by decide)
  have R' := zSt_T R 0
  obtain ⟨I0, In, Ig, If, -⟩ := id I
  have lim := zSt_limA R hp
  have ho := R.2.1.1
  have h8 := R.1.1 8 0 ⟨rfl, by decide⟩
  refine zm_of_z G KX10_scope rfl rfl ?_
  refine z_go 90 rfl ?_
  refine z_get (zSt_0 R) rfl rfl rfl rfl ?_
  refine z_go 90 rfl ?_
  refine z_ite (p := sNoV S a b) (fun nv => ?_) (fun nv => ?_)
  · rw [show sScope S a b w = (0, sThrow S 1) from zif_pos nv]
    exact z_cVT (zSt_0 R) (k_vO0 G I R a b nv lim) KX10_variableOf IX10_variableOf VX10_variableOf rfl rfl rfl PX10_variableOf rfl rfl rfl rfl rfl (zPub_x R)
  · rw [show sScope S a b w = _ from zif_neg nv]
    obtain ⟨f, j, rfl, rfl, hf, hj, hv, -⟩ := sVar_b I nv
    have f1 := If.1
    have v4 := (If.2 f hf).2.2.2.2.2.2.2.1
    have v6 := ((If.2 f hf).2.2.2.2.2.2.2.2 j hj).2.2.2.2.2
    have hvd : zvd S K 14 (4 * f + j) := ⟨by omega, by
      rw [show (4 * f + j) % 4 = j by omega, show (4 * f + j) / 4 = f by omega]
      omega⟩
    rw [n_toNat (n := f) (by omega), n_toNat (n := j) (by omega)]
    refine z_cV (zSt_0 R) (k_vO1 G I R f j hf hj) KX10_variableOf IX10_variableOf VX10_variableOf rfl rfl rfl PX10_variableOf rfl rfl rfl rfl ?_
    refine z_go 90 rfl ?_
    refine z_ite (p := S 13 (4 * f + j) = w) (fun he => ?_) (fun he => ?_)
    · rw [if_pos he]
      refine z_cVP h8 (k_setScope1 G I' R' hf hj w hw he) KX2_setScope IX2_setScope VX2_setScope rfl rfl rfl PX2_setScope rfl rfl rfl rfl ?_
      intro h1 P1
      obtain ⟨D1, W1, K1, P1⟩ := P1
      refine z_zret rfl rfl rfl ⟨⟨D1, W1, K1, zSt_up P1⟩, Or.inl ⟨?_, rfl⟩⟩
      rcases hw with rfl | rfl
      · rfl
      · rfl
    · rw [if_neg he]
      refine z_cV h8 (k_setScope0 G I' R' hvd v6 w hw he) KX2_setScope IX2_setScope VX2_setScope rfl rfl rfl PX2_setScope rfl rfl rfl rfl ?_
      exact z_zret rfl rfl rfl (zPub_k R' rfl)
end ZSC
