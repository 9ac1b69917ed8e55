section ZHQ
variable {X : zCx} {F : Nat → Option va_E} {o oa p q : Nat} {S : zS} {D : Nat → Nat → Nat} {W : Nat → Nat → Int32} {K : Nat → Nat → Nat} {h : zHp} {cc : Nat} {g : Nat → Int64}
def zFu (F : Nat → Option va_E) (oa : Nat) (e : va_E) : Nat → Option va_E := fun a => if a = oa then some e else F a
theorem zFu_same {e : va_E} (h : F oa = some e) : zFu F oa e = F := by
  funext a
  unfold zFu
  by_cases c : a = oa
  · rw [if_pos c, c, h]
  · rw [if_neg c]
theorem zSt_out {e0 : va_E} (R : zSt X F o S D W K h p q) (hoa : F oa = some e0) (e : va_E) : zSt X (zFu F oa e) o S D W K (zset h oa e) p q := by
  obtain ⟨⟨R1, R2, R3⟩, R4, R5, R6, R7⟩ := R
  have hne := (R6 oa e0 hoa).2
  refine ⟨⟨fun r i v => ?_, R2, R3⟩, R4, R5, fun a e' he => ?_, R7⟩
  · rw [zset_ne _ _ (hne r i v)]
    exact R1 r i v
  · unfold zFu at he
    by_cases c : a = oa
    · rw [if_pos c] at he
      cases he
      rw [c]
      exact ⟨zset_at _ _ _, hne⟩
    · rw [if_neg c] at he
      rw [zset_ne _ _ c]
      exact R6 a e' he
/-- the end of a helper of the law -/
def zHq (X : zCx) (F : Nat → Option va_E) (oa o : Nat) (S' : zS) (v : Int64) (p q : Nat) : zRs → zHp → Prop := fun r h' => r = .inl (some (.int (S' 0 0))) ∧ ∃ g' D W K, zSt X (zFu F oa (zJ X 1 g')) o S' D W K h' p q ∧ (S' 0 0 = 0 → g' 0 = v)
theorem zHq_t {S' : zS} {v : Int64} {D' : Nat → Nat → Nat} {W' : Nat → Nat → Int32} {K' : Nat → Nat → Nat} {h' : zHp} {p' q' : Nat} {n : Int32} (R : zSt X F o S' D' W' K' h' p' q') (hoa : F oa = some (zJ X 1 g)) (e : S' 0 0 = n) (hn : n ≠ 0) (h1 : p' ≤ p) (h2 : q' ≤ q) : zHq X F oa o S' v p q (.inl (some (.int n))) h' := ⟨by rw [e], g, D', W', K', by rw [zFu_same hoa]; exact zSt_le R h1 h2, fun z => by rw [e] at z; exact absurd z hn⟩
theorem zHq_n {S' : zS} {v : Int64} {D' : Nat → Nat → Nat} {W' : Nat → Nat → Int32} {K' : Nat → Nat → Nat} {h' : zHp} {p' q' : Nat} (R : zSt X F o S' D' W' K' h' p' q') (hoa : F oa = some (zJ X 1 g)) (e : S' 0 0 = 0) (h1 : p' ≤ p) (h2 : q' ≤ q) : zHq X F oa o S' v p q (.inl (some (.int 0))) (zset h' oa (zJ X 1 (vp_updL g 0 v))) := ⟨by rw [e], vp_updL g 0 v, D', W', K', zSt_out (zSt_le R h1 h2) hoa _, fun _ => if_pos rfl⟩
theorem zcl_A : Jvm.Cond.classLink "ShadowWardLaw" 13 "java/lang/IllegalArgumentException" ∈ lw_tbl := z_in (List.mem_of_getElem? (i := 595) (by decide +kernel))
theorem zcl_S : Jvm.Cond.classLink "ShadowWardLaw" 23 "java/lang/IllegalStateException" ∈ lw_tbl := z_in (List.mem_of_getElem? (i := 744) (by decide +kernel))
theorem zcl_I : Jvm.Cond.classLink "ShadowWardLaw" 29 "java/lang/IndexOutOfBoundsException" ∈ lw_tbl := z_in (List.mem_of_getElem? (i := 782) (by decide +kernel))
theorem znC_AI (G : zG X) : znC X "java/lang/IllegalArgumentException" "java/lang/IndexOutOfBoundsException" := znC_of G (by decide +kernel) (by decide +kernel) (by decide +kernel)
theorem kh_global (G : zG X) (I : sInv S cc) (hcc : cc < 512) (R : zSt X F o S D W K h p q) (hp : p + 100 ≤ 500000 ∧ q + 10000 ≤ 7000000) (hoa : F oa = some (zJ X 1 g)) (a : Int32) : ZM X ML_global 11 420 [.ref o, .int a, .ref oa] h (zHq X F oa o (sGlobal S a).2 (sGlobal S a).1.toInt64 (p + 30) (q + 4000)) := by
  refine zm_of_z G KL_global rfl rfl ?_
  refine z_go 90 rfl ?_
  refine z_invV (k_global G I hcc R (by omega) a) KX10_global (zSt_0 R) (by decide) IX10_global VX10_global rfl rfl PX10_global rfl rfl rfl rfl (fun v9 h1 P9 => ?_) (fun E9 h1 P9 => ?_)
  · obtain ⟨⟨D1, W1, K1, R1⟩, ⟨e0, ev⟩ | ⟨-, ev⟩ | ⟨-, ev, -⟩⟩ := P9
    · cases ev
      have ho1 := (R1.2.2.2.1 oa _ hoa).1
      refine z_go 90 rfl ?_
      refine z_last 0 ho1 rfl rfl (by decide) ?_
      refine z_go 90 rfl ?_
      exact z_iret rfl rfl (zHq_n R1 hoa e0 (by omega) (by omega))
    · cases ev
    · cases ev
  · obtain ⟨⟨D1, W1, K1, R1⟩, ⟨-, ev⟩ | ⟨e1, ev⟩ | ⟨e1, ev, en⟩⟩ := P9
    · cases ev
    · cases ev
      refine zt_first rfl rfl (by decide) zcl_A (by decide +kernel) (fun q9 => ?_)
      refine z_go 90 rfl ?_
      exact z_iret rfl rfl (zHq_t R1 hoa e1 (by decide) (by omega) (by omega))
    · exact absurd rfl en
theorem kh_enter (G : zG X) (I : sInv S cc) (hcc : cc < 512) (R : zSt X F o S D W K h p q) (hp : p + 100 ≤ 500000 ∧ q + 10000 ≤ 7000000) (hoa : F oa = some (zJ X 1 g)) (a : Int32) (b : Int32) (c : Int32) (d : Int32) : ZM X ML_enter 11 420 [.ref o, .int a, .int b, .int c, .int d, .ref oa] h (zHq X F oa o (sEnter S a b c d).2 (sEnter S a b c d).1.toInt64 (p + 30) (q + 4000)) := by
  refine zm_of_z G KL_enter rfl rfl ?_
  refine z_wf fun wf9 _ => ?_
  have hFw : ∀ x e, F x = some e → x < h.2.1 := fun x e he => (wf9 x e (R.2.2.2.1 x e he).1).2
  refine z_go 90 rfl ?_
  refine z_invV (k_enter G I hcc R hp hFw a b c d) KX10_enter (zSt_0 R) (by decide) IX10_enter VX10_enter rfl rfl PX10_enter rfl rfl rfl rfl (fun v9 h1 P9 => ?_) (fun E9 h1 P9 => ?_)
  · obtain ⟨⟨D1, W1, K1, R1⟩, ⟨e0, ev⟩ | ⟨-, ev⟩ | ⟨-, ev, -⟩⟩ := P9
    · cases ev
      have ho1 := (R1.2.2.2.1 oa _ hoa).1
      refine z_go 90 rfl ?_
      refine z_last 0 ho1 rfl rfl (by decide) ?_
      refine z_go 90 rfl ?_
      exact z_iret rfl rfl (zHq_n R1 hoa e0 (by omega) (by omega))
    · cases ev
    · cases ev
  · obtain ⟨⟨D1, W1, K1, R1⟩, ⟨-, ev⟩ | ⟨e1, ev⟩ | ⟨e1, ev, en⟩⟩ := P9
    · cases ev
    · cases ev
      refine zt_first rfl rfl (by decide) zcl_A (by decide +kernel) (fun q9 => ?_)
      refine z_go 90 rfl ?_
      exact z_iret rfl rfl (zHq_t R1 hoa e1 (by decide) (by omega) (by omega))
    · exact absurd rfl en
theorem kh_leave (G : zG X) (I : sInv S cc) (hcc : cc < 512) (R : zSt X F o S D W K h p q) (hp : p + 100 ≤ 500000 ∧ q + 10000 ≤ 7000000) (hoa : F oa = some (zJ X 1 g))  : ZM X ML_leave 11 420 [.ref o, .ref oa] h (zHq X F oa o (sLeave S).2 (sLeave S).1.toInt64 (p + 30) (q + 4000)) := by
  refine zm_of_z G KL_leave rfl rfl ?_
  refine z_go 90 rfl ?_
  refine z_invV (k_leave G I hcc R (by omega)) KX10_leave (zSt_0 R) (by decide) IX10_leave VX10_leave rfl rfl PX10_leave rfl rfl rfl rfl (fun v9 h1 P9 => ?_) (fun E9 h1 P9 => ?_)
  · obtain ⟨⟨D1, W1, K1, R1⟩, ⟨e0, ev⟩ | ⟨-, ev⟩ | ⟨-, ev, -⟩⟩ := P9
    · cases ev
      have ho1 := (R1.2.2.2.1 oa _ hoa).1
      refine z_go 90 rfl ?_
      refine z_last 0 ho1 rfl rfl (by decide) ?_
      refine z_go 90 rfl ?_
      exact z_iret rfl rfl (zHq_n R1 hoa e0 (by omega) (by omega))
    · cases ev
    · cases ev
  · obtain ⟨⟨D1, W1, K1, R1⟩, ⟨-, ev⟩ | ⟨e1, ev⟩ | ⟨e1, ev, en⟩⟩ := P9
    · cases ev
    · cases ev
      refine zt_first rfl rfl (by decide) zcl_S (by decide +kernel) (fun q9 => ?_)
      refine z_go 90 rfl ?_
      exact z_iret rfl rfl (zHq_t R1 hoa e1 (by decide) (by omega) (by omega))
    · exact absurd rfl en
theorem kh_scope (G : zG X) (I : sInv S cc) (hcc : cc < 512) (R : zSt X F o S D W K h p q) (hp : p + 100 ≤ 500000 ∧ q + 10000 ≤ 7000000) (hoa : F oa = some (zJ X 1 g)) (a : Int32) (b : Int32) (w : Int32) (hw : w = 0 ∨ w = 1) : ZM X ML_scope 11 420 [.ref o, .int a, .int b, .int w, .ref oa] h (zHq X F oa o (sScope S a b w).2 (if (sScope S a b w).1 = 0 then 0 else 1) (p + 30) (q + 4000)) := by
  refine zm_of_z G KL_scope rfl rfl ?_
  refine z_go 90 rfl ?_
  refine z_invV (k_scope G I hcc R (by omega) a b w hw) KX10_scope (zSt_0 R) (by decide) IX10_scope VX10_scope rfl rfl PX10_scope rfl rfl rfl rfl (fun v9 h1 P9 => ?_) (fun E9 h1 P9 => ?_)
  · obtain ⟨⟨D1, W1, K1, R1⟩, ⟨e0, ev⟩ | ⟨-, ev⟩ | ⟨-, ev, -⟩⟩ := P9
    · cases ev
      have ho1 := (R1.2.2.2.1 oa _ hoa).1
      refine z_br rfl rfl (fun c9 => ?_) (fun c9 => ?_) <;> (try dsimp only at c9)
      · rw [if_pos c9]
        refine z_go 90 rfl ?_
        refine z_last 0 ho1 rfl rfl (by decide) ?_
        refine z_go 90 rfl ?_
        exact z_iret rfl rfl (zHq_n R1 hoa e0 (by omega) (by omega))
      · rw [if_neg c9]
        refine z_go 90 rfl ?_
        refine z_last 0 ho1 rfl rfl (by decide) ?_
        refine z_go 90 rfl ?_
        exact z_iret rfl rfl (zHq_n R1 hoa e0 (by omega) (by omega))
    · cases ev
    · cases ev
  · obtain ⟨⟨D1, W1, K1, R1⟩, ⟨-, ev⟩ | ⟨e1, ev⟩ | ⟨e1, ev, en⟩⟩ := P9
    · cases ev
    · cases ev
      refine zt_first rfl rfl (by decide) zcl_I (by decide +kernel) (fun q9 => ?_)
      refine z_go 90 rfl ?_
      exact z_iret rfl rfl (zHq_t R1 hoa e1 (by decide) (by omega) (by omega))
    · exact absurd rfl en
theorem kh_variable (G : zG X) (I : sInv S cc) (hcc : cc < 512) (R : zSt X F o S D W K h p q) (hp : p + 100 ≤ 500000 ∧ q + 10000 ≤ 7000000) (hoa : F oa = some (zJ X 1 g)) (a : Int32) (b : Int32) : ZM X ML_variable 11 420 [.ref o, .int a, .int b, .ref oa] h (zHq X F oa o (sVar S a b).2 (sVar S a b).1.toInt64 (p + 30) (q + 4000)) := by
  refine zm_of_z G KL_variable rfl rfl ?_
  refine z_go 90 rfl ?_
  refine z_invV (kp_var G I R (by omega) a b) KX10_variable (zSt_0 R) (by decide) IX10_variable VX10_variable rfl rfl PX10_variable rfl rfl rfl rfl (fun v9 h1 P9 => ?_) (fun E9 h1 P9 => ?_)
  · obtain ⟨⟨D1, W1, K1, R1⟩, ⟨e0, ev⟩ | ⟨-, ev⟩ | ⟨-, ev, -⟩⟩ := P9
    · cases ev
      have ho1 := (R1.2.2.2.1 oa _ hoa).1
      refine z_go 90 rfl ?_
      refine z_last 0 ho1 rfl rfl (by decide) ?_
      refine z_go 90 rfl ?_
      exact z_iret rfl rfl (zHq_n R1 hoa e0 (by omega) (by omega))
    · cases ev
    · cases ev
  · obtain ⟨⟨D1, W1, K1, R1⟩, ⟨-, ev⟩ | ⟨e1, ev⟩ | ⟨e1, ev, en⟩⟩ := P9
    · cases ev
    · cases ev
      refine zt_first rfl rfl (by decide) zcl_I (by decide +kernel) (fun q9 => ?_)
      refine z_go 90 rfl ?_
      exact z_iret rfl rfl (zHq_t R1 hoa e1 (by decide) (by omega) (by omega))
    · exact absurd rfl en
theorem kh_allocate (G : zG X) (I : sInv S cc) (hcc : cc < 512) (R : zSt X F o S D W K h p q) (hp : p + 100 ≤ 500000 ∧ q + 10000 ≤ 7000000) (hoa : F oa = some (zJ X 1 g)) (a : Int32) (b : Int32) (c : Int32) : ZM X ML_allocate 11 420 [.ref o, .int a, .int b, .int c, .ref oa] h (zHq X F oa o (sAlloc S a b c).2 (sAlloc S a b c).1.toInt64 (p + 30) (q + 4000)) := by
  refine zm_of_z G KL_allocate rfl rfl ?_
  refine z_go 90 rfl ?_
  refine z_invV (k_alloc G I hcc R (by omega) a b c) KX10_allocate (zSt_0 R) (by decide) IX10_allocate VX10_allocate rfl rfl PX10_allocate rfl rfl rfl rfl (fun v9 h1 P9 => ?_) (fun E9 h1 P9 => ?_)
  · obtain ⟨⟨D1, W1, K1, R1⟩, ⟨e0, ev⟩ | ⟨-, ev⟩ | ⟨-, ev, -⟩⟩ := P9
    · cases ev
      have ho1 := (R1.2.2.2.1 oa _ hoa).1
      refine z_go 90 rfl ?_
      refine z_last 0 ho1 rfl rfl (by decide) ?_
      refine z_go 90 rfl ?_
      exact z_iret rfl rfl (zHq_n R1 hoa e0 (by omega) (by omega))
    · cases ev
    · cases ev
  · obtain ⟨⟨D1, W1, K1, R1⟩, ⟨-, ev⟩ | ⟨e1, ev⟩ | ⟨e1, ev, en⟩⟩ := P9
    · cases ev
    · cases ev
      refine zt_first rfl rfl (by decide) zcl_A (by decide +kernel) (fun q9 => ?_)
      refine z_go 90 rfl ?_
      exact z_iret rfl rfl (zHq_t R1 hoa e1 (by decide) (by omega) (by omega))
    · exact absurd rfl en
theorem kh_free (G : zG X) (I : sInv S cc) (hcc : cc < 512) (R : zSt X F o S D W K h p q) (hp : p + 100 ≤ 500000 ∧ q + 10000 ≤ 7000000) (hoa : F oa = some (zJ X 1 g)) (a : Int32) (b : Int32) (c : Int32) : ZM X ML_free 11 420 [.ref o, .int a, .int b, .int c, .ref oa] h (zHq X F oa o (sFreeC S a b c).2 (if (sFreeC S a b c).1 = 0 then 0 else 1) (p + 30) (q + 4000)) := by
  refine zm_of_z G KL_free rfl rfl ?_
  refine z_go 90 rfl ?_
  refine z_invV (k_free G I hcc R (by omega) a b c) KX10_free (zSt_0 R) (by decide) IX10_free VX10_free rfl rfl PX10_free rfl rfl rfl rfl (fun v9 h1 P9 => ?_) (fun E9 h1 P9 => ?_)
  · obtain ⟨⟨D1, W1, K1, R1⟩, ⟨e0, ev⟩ | ⟨-, ev⟩ | ⟨-, ev, -⟩⟩ := P9
    · cases ev
      have ho1 := (R1.2.2.2.1 oa _ hoa).1
      refine z_br rfl rfl (fun c9 => ?_) (fun c9 => ?_) <;> (try dsimp only at c9)
      · rw [if_pos c9]
        refine z_go 90 rfl ?_
        refine z_last 0 ho1 rfl rfl (by decide) ?_
        refine z_go 90 rfl ?_
        exact z_iret rfl rfl (zHq_n R1 hoa e0 (by omega) (by omega))
      · rw [if_neg c9]
        refine z_go 90 rfl ?_
        refine z_last 0 ho1 rfl rfl (by decide) ?_
        refine z_go 90 rfl ?_
        exact z_iret rfl rfl (zHq_n R1 hoa e0 (by omega) (by omega))
    · cases ev
    · cases ev
  · obtain ⟨⟨D1, W1, K1, R1⟩, ⟨-, ev⟩ | ⟨e1, ev⟩ | ⟨e1, ev, en⟩⟩ := P9
    · cases ev
    · cases ev
      refine zt_first rfl rfl (by decide) zcl_A (by decide +kernel) (fun q9 => ?_)
      refine z_go 90 rfl ?_
      exact z_iret rfl rfl (zHq_t R1 hoa e1 (by decide) (by omega) (by omega))
    · exact absurd rfl en
theorem kh_resize (G : zG X) (I : sInv S cc) (hcc : cc < 512) (R : zSt X F o S D W K h p q) (hp : p + 100 ≤ 500000 ∧ q + 10000 ≤ 7000000) (hoa : F oa = some (zJ X 1 g)) (a : Int32) (b : Int32) (c : Int32) : ZM X ML_resize 11 420 [.ref o, .int a, .int b, .int c, .ref oa] h (zHq X F oa o (sRes S a b c).2 (sRes S a b c).1.toInt64 (p + 30) (q + 4000)) := by
  refine zm_of_z G KL_resize rfl rfl ?_
  refine z_go 90 rfl ?_
  refine z_invV (k_resize G I hcc R hp a b c) KX10_resize (zSt_0 R) (by decide) IX10_resize VX10_resize rfl rfl PX10_resize rfl rfl rfl rfl (fun v9 h1 P9 => ?_) (fun E9 h1 P9 => ?_)
  · obtain ⟨⟨D1, W1, K1, R1⟩, ⟨e0, ev⟩ | ⟨-, ev⟩ | ⟨-, ev, -⟩⟩ := P9
    · cases ev
      have ho1 := (R1.2.2.2.1 oa _ hoa).1
      refine z_go 90 rfl ?_
      refine z_last 0 ho1 rfl rfl (by decide) ?_
      refine z_go 90 rfl ?_
      exact z_iret rfl rfl (zHq_n R1 hoa e0 (by omega) (by omega))
    · cases ev
    · cases ev
  · obtain ⟨⟨D1, W1, K1, R1⟩, ⟨-, ev⟩ | ⟨e1, ev⟩ | ⟨e1, ev, en⟩⟩ := P9
    · cases ev
    · cases ev
      refine zt_first rfl rfl (by decide) zcl_A (by decide +kernel) (fun q9 => ?_)
      refine z_go 90 rfl ?_
      exact z_iret rfl rfl (zHq_t R1 hoa e1 (by decide) (by omega) (by omega))
    · exact absurd rfl en
theorem kh_load (G : zG X) (I : sInv S cc) (hcc : cc < 512) (R : zSt X F o S D W K h p q) (hp : p + 100 ≤ 500000 ∧ q + 10000 ≤ 7000000) (hoa : F oa = some (zJ X 1 g)) (a : Int32) (b : Int32) : ZM X ML_load 11 420 [.ref o, .int a, .int b, .ref oa] h (zHq X F oa o (sLoad S a b).2 (sLoad S a b).1 (p + 30) (q + 4000)) := by
  refine zm_of_z G KL_load rfl rfl ?_
  refine z_go 90 rfl ?_
  refine z_invV (k_load G I hcc R (by omega) a b) KX10_load (zSt_0 R) (by decide) IX10_load VX10_load rfl rfl PX10_load rfl rfl rfl rfl (fun v9 h1 P9 => ?_) (fun E9 h1 P9 => ?_)
  · obtain ⟨⟨D1, W1, K1, R1⟩, ⟨e0, ev⟩ | ⟨-, ev⟩ | ⟨-, ev, -⟩⟩ := P9
    · cases ev
      have ho1 := (R1.2.2.2.1 oa _ hoa).1
      refine z_go 90 rfl ?_
      refine z_last 0 ho1 rfl rfl (by decide) ?_
      refine z_go 90 rfl ?_
      exact z_iret rfl rfl (zHq_n R1 hoa e0 (by omega) (by omega))
    · cases ev
    · cases ev
  · obtain ⟨⟨D1, W1, K1, R1⟩, ⟨-, ev⟩ | ⟨e1, ev⟩ | ⟨e1, ev, en⟩⟩ := P9
    · cases ev
    · cases ev
      refine zt_first rfl rfl (by decide) zcl_A (by decide +kernel) (fun q9 => ?_)
      refine z_go 90 rfl ?_
      exact z_iret rfl rfl (zHq_t R1 hoa e1 (by decide) (by omega) (by omega))
    · exact absurd rfl en
theorem kh_store (G : zG X) (I : sInv S cc) (hcc : cc < 512) (R : zSt X F o S D W K h p q) (hp : p + 100 ≤ 500000 ∧ q + 10000 ≤ 7000000) (hoa : F oa = some (zJ X 1 g)) (a : Int32) (b : Int32) (v : Int64) : ZM X ML_store 11 420 [.ref o, .int a, .int b, .long v, .ref oa] h (zHq X F oa o (sStore S a b v).2 (if (sStore S a b v).1 = 0 then 0 else 1) (p + 30) (q + 4000)) := by
  refine zm_of_z G KL_store rfl rfl ?_
  refine z_go 90 rfl ?_
  refine z_invV (k_store G I hcc R (by omega) a b v) KX10_store (zSt_0 R) (by decide) IX10_store VX10_store rfl rfl PX10_store rfl rfl rfl rfl (fun v9 h1 P9 => ?_) (fun E9 h1 P9 => ?_)
  · obtain ⟨⟨D1, W1, K1, R1⟩, ⟨e0, ev⟩ | ⟨-, ev⟩ | ⟨-, ev, -⟩⟩ := P9
    · cases ev
      have ho1 := (R1.2.2.2.1 oa _ hoa).1
      refine z_br rfl rfl (fun c9 => ?_) (fun c9 => ?_) <;> (try dsimp only at c9)
      · rw [if_pos c9]
        refine z_go 90 rfl ?_
        refine z_last 0 ho1 rfl rfl (by decide) ?_
        refine z_go 90 rfl ?_
        exact z_iret rfl rfl (zHq_n R1 hoa e0 (by omega) (by omega))
      · rw [if_neg c9]
        refine z_go 90 rfl ?_
        refine z_last 0 ho1 rfl rfl (by decide) ?_
        refine z_go 90 rfl ?_
        exact z_iret rfl rfl (zHq_n R1 hoa e0 (by omega) (by omega))
    · cases ev
    · cases ev
  · obtain ⟨⟨D1, W1, K1, R1⟩, ⟨-, ev⟩ | ⟨e1, ev⟩ | ⟨e1, ev, en⟩⟩ := P9
    · cases ev
    · cases ev
      refine zt_first rfl rfl (by decide) zcl_A (by decide +kernel) (fun q9 => ?_)
      refine z_go 90 rfl ?_
      exact z_iret rfl rfl (zHq_t R1 hoa e1 (by decide) (by omega) (by omega))
    · exact absurd rfl en
theorem kh_fill (G : zG X) (I : sInv S cc) (hcc : cc < 512) (R : zSt X F o S D W K h p q) (hp : p + 100 ≤ 500000 ∧ q + 10000 ≤ 7000000) (hoa : F oa = some (zJ X 1 g)) (a : Int32) (b : Int32) (c : Int32) : ZM X ML_fill 11 420 [.ref o, .int a, .int b, .int c, .ref oa] h (zHq X F oa o (sFill S a b c).2 (if (sFill S a b c).1 = 0 then 0 else 1) (p + 30) (q + 4000)) := by
  refine zm_of_z G KL_fill rfl rfl ?_
  refine z_go 90 rfl ?_
  refine z_invV (k_fill G I hcc R (by omega) a b c) KX10_fill (zSt_0 R) (by decide) IX10_fill VX10_fill rfl rfl PX10_fill rfl rfl rfl rfl (fun v9 h1 P9 => ?_) (fun E9 h1 P9 => ?_)
  · obtain ⟨⟨D1, W1, K1, R1⟩, ⟨e0, ev⟩ | ⟨-, ev⟩ | ⟨-, ev, -⟩⟩ := P9
    · cases ev
      have ho1 := (R1.2.2.2.1 oa _ hoa).1
      refine z_br rfl rfl (fun c9 => ?_) (fun c9 => ?_) <;> (try dsimp only at c9)
      · rw [if_pos c9]
        refine z_go 90 rfl ?_
        refine z_last 0 ho1 rfl rfl (by decide) ?_
        refine z_go 90 rfl ?_
        exact z_iret rfl rfl (zHq_n R1 hoa e0 (by omega) (by omega))
      · rw [if_neg c9]
        refine z_go 90 rfl ?_
        refine z_last 0 ho1 rfl rfl (by decide) ?_
        refine z_go 90 rfl ?_
        exact z_iret rfl rfl (zHq_n R1 hoa e0 (by omega) (by omega))
    · cases ev
    · cases ev
  · obtain ⟨⟨D1, W1, K1, R1⟩, ⟨-, ev⟩ | ⟨e1, ev⟩ | ⟨e1, ev, en⟩⟩ := P9
    · cases ev
    · cases ev
      refine zt_first rfl rfl (by decide) zcl_A (by decide +kernel) (fun q9 => ?_)
      refine z_go 90 rfl ?_
      exact z_iret rfl rfl (zHq_t R1 hoa e1 (by decide) (by omega) (by omega))
    · exact absurd rfl en
theorem kh_copy (G : zG X) (I : sInv S cc) (hcc : cc < 512) (R : zSt X F o S D W K h p q) (hp : p + 100 ≤ 500000 ∧ q + 10000 ≤ 7000000) (hoa : F oa = some (zJ X 1 g)) (a : Int32) (b : Int32) (c : Int32) (w : Int32) (hw : w = 0 ∨ w = 1) : ZM X ML_copy 11 420 [.ref o, .int a, .int b, .int c, .int w, .ref oa] h (zHq X F oa o (sCopy S a b c w).2 (if (sCopy S a b c w).1 = 0 then 0 else 1) (p + 30) (q + 4000)) := by
  refine zm_of_z G KL_copy rfl rfl ?_
  refine z_go 90 rfl ?_
  refine z_invV (k_copy G I hcc R (by omega) a b c w hw) KX10_copy (zSt_0 R) (by decide) IX10_copy VX10_copy rfl rfl PX10_copy rfl rfl rfl rfl (fun v9 h1 P9 => ?_) (fun E9 h1 P9 => ?_)
  · obtain ⟨⟨D1, W1, K1, R1⟩, ⟨e0, ev⟩ | ⟨-, ev⟩ | ⟨-, ev, -⟩⟩ := P9
    · cases ev
      have ho1 := (R1.2.2.2.1 oa _ hoa).1
      refine z_br rfl rfl (fun c9 => ?_) (fun c9 => ?_) <;> (try dsimp only at c9)
      · rw [if_pos c9]
        refine z_go 90 rfl ?_
        refine z_last 0 ho1 rfl rfl (by decide) ?_
        refine z_go 90 rfl ?_
        exact z_iret rfl rfl (zHq_n R1 hoa e0 (by omega) (by omega))
      · rw [if_neg c9]
        refine z_go 90 rfl ?_
        refine z_last 0 ho1 rfl rfl (by decide) ?_
        refine z_go 90 rfl ?_
        exact z_iret rfl rfl (zHq_n R1 hoa e0 (by omega) (by omega))
    · cases ev
    · cases ev
  · obtain ⟨⟨D1, W1, K1, R1⟩, ⟨-, ev⟩ | ⟨e1, ev⟩ | ⟨e1, ev, en⟩⟩ := P9
    · cases ev
    · cases ev
      refine zt_first rfl rfl (by decide) zcl_A (by decide +kernel) (fun q9 => ?_)
      refine z_go 90 rfl ?_
      exact z_iret rfl rfl (zHq_t R1 hoa e1 (by decide) (by omega) (by omega))
    · exact absurd rfl en
theorem kh_compare (G : zG X) (I : sInv S cc) (hcc : cc < 512) (R : zSt X F o S D W K h p q) (hp : p + 100 ≤ 500000 ∧ q + 10000 ≤ 7000000) (hoa : F oa = some (zJ X 1 g)) (a : Int32) (b : Int32) (c : Int32) : ZM X ML_compare 11 420 [.ref o, .int a, .int b, .int c, .ref oa] h (zHq X F oa o (sComp S a b c).2 (sComp S a b c).1.toInt64 (p + 30) (q + 4000)) := by
  refine zm_of_z G KL_compare rfl rfl ?_
  refine z_go 90 rfl ?_
  refine z_invV (k_compare G I hcc R (by omega) a b c) KX10_compare (zSt_0 R) (by decide) IX10_compare VX10_compare rfl rfl PX10_compare rfl rfl rfl rfl (fun v9 h1 P9 => ?_) (fun E9 h1 P9 => ?_)
  · obtain ⟨⟨D1, W1, K1, R1⟩, ⟨e0, ev⟩ | ⟨-, ev⟩ | ⟨-, ev, -⟩⟩ := P9
    · cases ev
      have ho1 := (R1.2.2.2.1 oa _ hoa).1
      refine z_go 90 rfl ?_
      refine z_last 0 ho1 rfl rfl (by decide) ?_
      refine z_go 90 rfl ?_
      exact z_iret rfl rfl (zHq_n R1 hoa e0 (by omega) (by omega))
    · cases ev
    · cases ev
  · obtain ⟨⟨D1, W1, K1, R1⟩, ⟨-, ev⟩ | ⟨e1, ev⟩ | ⟨e1, ev, en⟩⟩ := P9
    · cases ev
    · cases ev
      refine zt_first rfl rfl (by decide) zcl_A (by decide +kernel) (fun q9 => ?_)
      refine z_go 90 rfl ?_
      exact z_iret rfl rfl (zHq_t R1 hoa e1 (by decide) (by omega) (by omega))
    · exact absurd rfl en
theorem kh_lock (G : zG X) (I : sInv S cc) (hcc : cc < 512) (R : zSt X F o S D W K h p q) (hp : p + 100 ≤ 500000 ∧ q + 10000 ≤ 7000000) (hoa : F oa = some (zJ X 1 g)) (a : Int32) (b : Int32) : ZM X ML_lock 11 420 [.ref o, .int a, .int b, .ref oa] h (zHq X F oa o (sChange S a b 0 247).2 (sChange S a b 0 247).1.toInt64 (p + 30) (q + 4000)) := by
  refine zm_of_z G KL_lock rfl rfl ?_
  refine z_go 90 rfl ?_
  refine z_invV (kp_lock G I R (by omega) a b) KX10_lock (zSt_0 R) (by decide) IX10_lock VX10_lock rfl rfl PX10_lock rfl rfl rfl rfl (fun v9 h1 P9 => ?_) (fun E9 h1 P9 => ?_)
  · obtain ⟨⟨D1, W1, K1, R1⟩, ⟨e0, ev⟩ | ⟨-, ev⟩ | ⟨-, ev, -⟩⟩ := P9
    · cases ev
      have ho1 := (R1.2.2.2.1 oa _ hoa).1
      refine z_go 90 rfl ?_
      refine z_last 0 ho1 rfl rfl (by decide) ?_
      refine z_go 90 rfl ?_
      exact z_iret rfl rfl (zHq_n R1 hoa e0 (by omega) (by omega))
    · cases ev
    · cases ev
  · obtain ⟨⟨D1, W1, K1, R1⟩, ⟨-, ev⟩ | ⟨e1, ev⟩ | ⟨e1, ev, en⟩⟩ := P9
    · cases ev
    · cases ev
      refine zt_first rfl rfl (by decide) zcl_A (by decide +kernel) (fun q9 => ?_)
      refine z_go 90 rfl ?_
      exact z_iret rfl rfl (zHq_t R1 hoa e1 (by decide) (by omega) (by omega))
    · exact absurd rfl en
theorem kh_unlock (G : zG X) (I : sInv S cc) (hcc : cc < 512) (R : zSt X F o S D W K h p q) (hp : p + 100 ≤ 500000 ∧ q + 10000 ≤ 7000000) (hoa : F oa = some (zJ X 1 g)) (a : Int32) (b : Int32) : ZM X ML_unlock 11 420 [.ref o, .int a, .int b, .ref oa] h (zHq X F oa o (sChange S a b 247 0).2 (sChange S a b 247 0).1.toInt64 (p + 30) (q + 4000)) := by
  refine zm_of_z G KL_unlock rfl rfl ?_
  refine z_go 90 rfl ?_
  refine z_invV (kp_unlock G I R (by omega) a b) KX10_unlock (zSt_0 R) (by decide) IX10_unlock VX10_unlock rfl rfl PX10_unlock rfl rfl rfl rfl (fun v9 h1 P9 => ?_) (fun E9 h1 P9 => ?_)
  · obtain ⟨⟨D1, W1, K1, R1⟩, ⟨e0, ev⟩ | ⟨-, ev⟩ | ⟨-, ev, -⟩⟩ := P9
    · cases ev
      have ho1 := (R1.2.2.2.1 oa _ hoa).1
      refine z_go 90 rfl ?_
      refine z_last 0 ho1 rfl rfl (by decide) ?_
      refine z_go 90 rfl ?_
      exact z_iret rfl rfl (zHq_n R1 hoa e0 (by omega) (by omega))
    · cases ev
    · cases ev
  · obtain ⟨⟨D1, W1, K1, R1⟩, ⟨-, ev⟩ | ⟨e1, ev⟩ | ⟨e1, ev, en⟩⟩ := P9
    · cases ev
    · cases ev
      refine zt_first rfl rfl (by decide) zcl_A (by decide +kernel) (fun q9 => ?_)
      refine z_go 90 rfl ?_
      exact z_iret rfl rfl (zHq_t R1 hoa e1 (by decide) (by omega) (by omega))
    · exact absurd rfl en
theorem kh_report (G : zG X) (I : sInv S cc) (hcc : cc < 512) (R : zSt X F o S D W K h p q) (hp : p + 100 ≤ 500000 ∧ q + 10000 ≤ 7000000) (hoa : F oa = some (zJ X 1 g)) (a : Int32) (b : Int32) : ZM X ML_report 11 420 [.ref o, .int a, .int b, .ref oa] h (zHq X F oa o (sReport S a b).2 (sReport S a b).1.toInt64 (p + 30) (q + 4000)) := by
  refine zm_of_z G KL_report rfl rfl ?_
  refine z_go 90 rfl ?_
  refine z_invV (kp_report G I R (by omega) a b) KX10_report (zSt_0 R) (by decide) IX10_report VX10_report rfl rfl PX10_report rfl rfl rfl rfl (fun v9 h1 P9 => ?_) (fun E9 h1 P9 => ?_)
  · obtain ⟨⟨D1, W1, K1, R1⟩, ⟨e0, ev⟩ | ⟨-, ev⟩ | ⟨-, ev, -⟩⟩ := P9
    · cases ev
      have ho1 := (R1.2.2.2.1 oa _ hoa).1
      refine z_go 90 rfl ?_
      refine z_last 0 ho1 rfl rfl (by decide) ?_
      refine z_go 90 rfl ?_
      exact z_iret rfl rfl (zHq_n R1 hoa e0 (by omega) (by omega))
    · cases ev
    · cases ev
  · obtain ⟨⟨D1, W1, K1, R1⟩, ⟨-, ev⟩ | ⟨e1, ev⟩ | ⟨e1, ev, en⟩⟩ := P9
    · cases ev
    · cases ev
      refine zt_first rfl rfl (by decide) zcl_I (by decide +kernel) (fun q9 => ?_)
      refine z_go 90 rfl ?_
      exact z_iret rfl rfl (zHq_t R1 hoa e1 (by decide) (by omega) (by omega))
    · cases ev
      refine zt_second rfl rfl rfl (by decide) (by decide) zcl_I (znC_AI G) zcl_A (by decide +kernel) (fun q9 => ?_)
      refine z_go 90 rfl ?_
      exact z_iret rfl rfl (zHq_t R1 hoa e1 (by decide) (by omega) (by omega))
theorem kh_block (G : zG X) (I : sInv S cc) (hcc : cc < 512) (R : zSt X F o S D W K h p q) (hp : p + 100 ≤ 500000 ∧ q + 10000 ≤ 7000000) (hoa : F oa = some (zJ X 1 g)) (a : Int32) (b : Int32) : ZM X ML_block 11 420 [.ref o, .int a, .int b, .ref oa] h (zHq X F oa o (sBlock S a b).2 (sBlock S a b).1.toInt64 (p + 30) (q + 4000)) := by
  refine zm_of_z G KL_block rfl rfl ?_
  refine z_go 90 rfl ?_
  refine z_invV (kp_block G I R (by omega) a b) KX10_block (zSt_0 R) (by decide) IX10_block VX10_block rfl rfl PX10_block rfl rfl rfl rfl (fun v9 h1 P9 => ?_) (fun E9 h1 P9 => ?_)
  · obtain ⟨⟨D1, W1, K1, R1⟩, ⟨e0, ev⟩ | ⟨-, ev⟩ | ⟨-, ev, -⟩⟩ := P9
    · cases ev
      have ho1 := (R1.2.2.2.1 oa _ hoa).1
      refine z_go 90 rfl ?_
      refine z_last 0 ho1 rfl rfl (by decide) ?_
      refine z_go 90 rfl ?_
      exact z_iret rfl rfl (zHq_n R1 hoa e0 (by omega) (by omega))
    · cases ev
    · cases ev
  · obtain ⟨⟨D1, W1, K1, R1⟩, ⟨-, ev⟩ | ⟨e1, ev⟩ | ⟨e1, ev, en⟩⟩ := P9
    · cases ev
    · cases ev
      refine zt_first rfl rfl (by decide) zcl_I (by decide +kernel) (fun q9 => ?_)
      refine z_go 90 rfl ?_
      exact z_iret rfl rfl (zHq_t R1 hoa e1 (by decide) (by omega) (by omega))
    · cases ev
      refine zt_second rfl rfl rfl (by decide) (by decide) zcl_I (znC_AI G) zcl_A (by decide +kernel) (fun q9 => ?_)
      refine z_go 90 rfl ?_
      exact z_iret rfl rfl (zHq_t R1 hoa e1 (by decide) (by omega) (by omega))
theorem kh_shadow (G : zG X) (I : sInv S cc) (hcc : cc < 512) (R : zSt X F o S D W K h p q) (hp : p + 100 ≤ 500000 ∧ q + 10000 ≤ 7000000) (hoa : F oa = some (zJ X 1 g)) (a : Int32) : ZM X ML_shadow 11 420 [.ref o, .int a, .ref oa] h (zHq X F oa o (sShadow S a).2 (sShadow S a).1.toInt64 (p + 30) (q + 4000)) := by
  refine zm_of_z G KL_shadow rfl rfl ?_
  refine z_go 90 rfl ?_
  refine z_invV (kp_shadow G I R (by omega) a) KX10_shadow (zSt_0 R) (by decide) IX10_shadow VX10_shadow rfl rfl PX10_shadow rfl rfl rfl rfl (fun v9 h1 P9 => ?_) (fun E9 h1 P9 => ?_)
  · obtain ⟨⟨D1, W1, K1, R1⟩, ⟨e0, ev⟩ | ⟨-, ev⟩ | ⟨-, ev, -⟩⟩ := P9
    · cases ev
      have ho1 := (R1.2.2.2.1 oa _ hoa).1
      refine z_go 90 rfl ?_
      refine z_last 0 ho1 rfl rfl (by decide) ?_
      refine z_go 90 rfl ?_
      exact z_iret rfl rfl (zHq_n R1 hoa e0 (by omega) (by omega))
    · cases ev
    · cases ev
  · obtain ⟨⟨D1, W1, K1, R1⟩, ⟨-, ev⟩ | ⟨e1, ev⟩ | ⟨e1, ev, en⟩⟩ := P9
    · cases ev
    · cases ev
      refine zt_first rfl rfl (by decide) zcl_I (by decide +kernel) (fun q9 => ?_)
      refine z_go 90 rfl ?_
      exact z_iret rfl rfl (zHq_t R1 hoa e1 (by decide) (by omega) (by omega))
    · exact absurd rfl en
theorem kh_peek (G : zG X) (I : sInv S cc) (hcc : cc < 512) (R : zSt X F o S D W K h p q) (hp : p + 100 ≤ 500000 ∧ q + 10000 ≤ 7000000) (hoa : F oa = some (zJ X 1 g)) (a : Int32) : ZM X ML_peek 11 420 [.ref o, .int a, .ref oa] h (zHq X F oa o (sPeek S a).2 (sPeek S a).1.toInt64 (p + 30) (q + 4000)) := by
  refine zm_of_z G KL_peek rfl rfl ?_
  refine z_go 90 rfl ?_
  refine z_invV (kp_peek G I R (by omega) a) KX10_peek (zSt_0 R) (by decide) IX10_peek VX10_peek rfl rfl PX10_peek rfl rfl rfl rfl (fun v9 h1 P9 => ?_) (fun E9 h1 P9 => ?_)
  · obtain ⟨⟨D1, W1, K1, R1⟩, ⟨e0, ev⟩ | ⟨-, ev⟩ | ⟨-, ev, -⟩⟩ := P9
    · cases ev
      have ho1 := (R1.2.2.2.1 oa _ hoa).1
      refine z_go 90 rfl ?_
      refine z_last 0 ho1 rfl rfl (by decide) ?_
      refine z_go 90 rfl ?_
      exact z_iret rfl rfl (zHq_n R1 hoa e0 (by omega) (by omega))
    · cases ev
    · cases ev
  · obtain ⟨⟨D1, W1, K1, R1⟩, ⟨-, ev⟩ | ⟨e1, ev⟩ | ⟨e1, ev, en⟩⟩ := P9
    · cases ev
    · cases ev
      refine zt_first rfl rfl (by decide) zcl_I (by decide +kernel) (fun q9 => ?_)
      refine z_go 90 rfl ?_
      exact z_iret rfl rfl (zHq_t R1 hoa e1 (by decide) (by omega) (by omega))
    · exact absurd rfl en
theorem kh_held (G : zG X) (I : sInv S cc) (hcc : cc < 512) (R : zSt X F o S D W K h p q) (hp : p + 100 ≤ 500000 ∧ q + 10000 ≤ 7000000) (hoa : F oa = some (zJ X 1 g)) (a : Int32) : ZM X ML_held 11 420 [.ref o, .int a, .ref oa] h (zHq X F oa o (sHeld S a).2 (sHeld S a).1.toInt64 (p + 30) (q + 4000)) := by
  refine zm_of_z G KL_held rfl rfl ?_
  refine z_go 90 rfl ?_
  refine z_invV (kp_held G I R (by omega) a) KX10_held (zSt_0 R) (by decide) IX10_held VX10_held rfl rfl PX10_held rfl rfl rfl rfl (fun v9 h1 P9 => ?_) (fun E9 h1 P9 => ?_)
  · obtain ⟨⟨D1, W1, K1, R1⟩, ⟨e0, ev⟩ | ⟨-, ev⟩ | ⟨-, ev, -⟩⟩ := P9
    · cases ev
      have ho1 := (R1.2.2.2.1 oa _ hoa).1
      refine z_go 90 rfl ?_
      refine z_last 0 ho1 rfl rfl (by decide) ?_
      refine z_go 90 rfl ?_
      exact z_iret rfl rfl (zHq_n R1 hoa e0 (by omega) (by omega))
    · cases ev
    · cases ev
  · obtain ⟨⟨D1, W1, K1, R1⟩, ⟨-, ev⟩ | ⟨e1, ev⟩ | ⟨e1, ev, en⟩⟩ := P9
    · cases ev
    · cases ev
      refine zt_first rfl rfl (by decide) zcl_I (by decide +kernel) (fun q9 => ?_)
      refine z_go 90 rfl ?_
      exact z_iret rfl rfl (zHq_t R1 hoa e1 (by decide) (by omega) (by omega))
    · exact absurd rfl en
theorem kh_told (G : zG X) (I : sInv S cc) (hcc : cc < 512) (R : zSt X F o S D W K h p q) (hp : p + 100 ≤ 500000 ∧ q + 10000 ≤ 7000000) (hoa : F oa = some (zJ X 1 g)) (a : Int32) : ZM X ML_told 11 420 [.ref o, .int a, .ref oa] h (zHq X F oa o (sTold S a).2 (sTold S a).1.toInt64 (p + 30) (q + 4000)) := by
  refine zm_of_z G KL_told rfl rfl ?_
  refine z_go 90 rfl ?_
  refine z_invV (k_told G I hcc R (by omega) a) KX10_told (zSt_0 R) (by decide) IX10_told VX10_told rfl rfl PX10_told rfl rfl rfl rfl (fun v9 h1 P9 => ?_) (fun E9 h1 P9 => ?_)
  · obtain ⟨⟨D1, W1, K1, R1⟩, ⟨e0, ev⟩ | ⟨-, ev⟩ | ⟨-, ev, -⟩⟩ := P9
    · cases ev
      have ho1 := (R1.2.2.2.1 oa _ hoa).1
      refine z_go 90 rfl ?_
      refine z_last 0 ho1 rfl rfl (by decide) ?_
      refine z_go 90 rfl ?_
      exact z_iret rfl rfl (zHq_n R1 hoa e0 (by omega) (by omega))
    · cases ev
    · cases ev
  · obtain ⟨⟨D1, W1, K1, R1⟩, ⟨-, ev⟩ | ⟨e1, ev⟩ | ⟨e1, ev, en⟩⟩ := P9
    · cases ev
    · cases ev
      refine zt_first rfl rfl (by decide) zcl_A (by decide +kernel) (fun q9 => ?_)
      refine z_go 90 rfl ?_
      exact z_iret rfl rfl (zHq_t R1 hoa e1 (by decide) (by omega) (by omega))
    · exact absurd rfl en
end ZHQ
