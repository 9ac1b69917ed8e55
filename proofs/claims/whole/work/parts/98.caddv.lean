section ZAV
variable {X : zCx} {F : Nat → Option va_E} {o p q : Nat} {S Sx Sy : zS} {D : Nat → Nat → Nat} {W : Nat → Nat → Int32} {K : Nat → Nat → Nat} {h : zHp} {cc b0 fr at' by' m rA cap : Nat} {vA : Nat → Nat} {mc : Int32}
theorem c_initF (G : zG X) {t0 : Nat} (hD : zDef X t0) (A B : Int32) (hh : h.1 b0 = some (.inr (2, [.int 0, .int 0, .null]))) (he : b0 + 1 = h.2.1) (hl : zLim X (znew h (.inr (0, [.int 0, .null, .int 0])) 3)) : ZM X MX1_init 4 220 [.ref b0, .int A, .int B] h (zX (zset (znew h (zLc 0 t0 0) 3) b0 (.inr (2, [.int A, .int B, .ref (b0 + 1)]))) none) := by
  have hne : b0 ≠ h.2.1 := by omega
  refine zm_of_z G KX1_init rfl rfl ?_
  refine z_go 90 rfl ?_
  refine z_obj rfl rfl zoiI zoiC rfl rfl rfl ?_
  refine z_go 90 rfl ?_
  refine z_new 0 (by decide) rfl rfl zn_0 hl ?_
  refine z_go 90 rfl ?_
  refine z_cI (c_initA G hD (znew_at _ _ _)) KJx4a65c_init_da8c8 IJx4a65c_init_da8c8 rfl rfl rfl rfl rfl PJx4a65c_init_da8c8 rfl rfl rfl rfl ?_
  rw [zset_new]
  refine z_putF (show (znew h _ _).1 b0 = _ by rw [znew_ne _ _ _ hne]; exact hh) rfl rfl rfl rfl rfl rfl rfl rfl (by simp) ?_
  refine z_go 90 rfl ?_
  refine z_putF (zset_at _ _ _) rfl rfl rfl rfl rfl rfl rfl rfl (by simp) ?_
  refine z_go 90 rfl ?_
  refine z_putF (zset_at _ _ _) rfl rfl rfl rfl rfl rfl rfl rfl (by simp) ?_
  rw [zset_set, zset_set]
  exact z_vret rfl rfl ⟨by rw [he]; rfl, rfl⟩
theorem k_addV0 (G : zG X) (next : Nat) (b1 b2 : Nat) : ZM X MX2_addVariable 7 290 [.ref b1, .ref b2, .int (nI next), .int (nI 0)] h (zX h (some (.int (nI next)))) := by
  refine zm_of_z G KX2_addVariable rfl rfl ?_
  refine z_go 90 rfl ?_
  refine z_br rfl rfl (fun _ => ?_) (fun c => absurd c (by first | decide | (dsimp only; decide)))
  refine z_go 90 rfl ?_
  refine z_cS (c_span G 0 (by omega)) KX2_spanOf SX2_spanOf rfl rfl PX2_spanOf rfl rfl rfl rfl ?_
  refine z_go 90 rfl ?_
  rw [n_add]
  exact z_iret rfl rfl ⟨rfl, rfl⟩
theorem k_addV1 (G : zG X) (I : sInv S cc) (R : zSt X F o S D W K h p q) (hp : p ≤ 500000 ∧ q ≤ 7000000) (hfr : sN S 14 0 = fr) (hlt : ∀ r i, zvd S K r i → D r i < b0) (hF : ∀ a e, F a = some e → a < b0) (B : zFb X Sx b0 fr at' by' m rA cap vA mc h) (hm : m < 4) (A n : Nat) (hA : A ≤ 10000) (hn : 1 ≤ n ∧ n ≤ 128) (e11 : ∀ j, j ≤ m → sN Sy 11 (4 * fr + j) = if j = m then A else sN Sx 11 (4 * fr + j)) (e12 : ∀ j, j ≤ m → sN Sy 12 (4 * fr + j) = if j = m then n else sN Sx 12 (4 * fr + j)) :
    ZM X MX2_addVariable 7 290 [.ref (D 8 0), .ref b0, .int (nI A), .int (nI n)] h (fun r h' => r = .inl (some (.int (nI (A + sPad n)))) ∧ ∃ rA' cap' vA', zFb X Sy b0 fr at' by' (m + 1) rA' cap' vA' (mc + 1) h' ∧ zSt X F o S D W K h' (p + 2) (q + 18) ∧ h.2.1 ≤ h'.2.1 ∧ ∀ a, a < b0 → h'.1 a = h.1 a) := by
  have f1 := I.2.2.2.1.1
  have lim := zSt_lim R hp
  have h8 := R.1.1 8 0 ⟨rfl, by decide⟩
  obtain ⟨B1, B2, B3, B4, B5, B6⟩ := id B
  refine zm_of_z G KX2_addVariable rfl rfl ?_
  refine z_wf fun wf0 _ => ?_
  have wf : ∀ a e, h.1 a = some e → a < h.2.1 := fun a e he => (wf0 a e he).2
  have fx : ∀ a e, h.1 a = some e → ∀ e' k, (znew h e' k).1 a = some e := fun a e he e' k => by
    rw [znew_ne _ _ _ (by have := wf a e he; omega)]
    exact he
  refine z_go 90 rfl ?_
  refine z_br rfl rfl (fun c => absurd c (by
    show ¬ nI n ≤ nI 0
    rw [n_le (by omega) (by omega)]
    omega)) (fun _ => ?_)
  refine z_go 90 rfl ?_
  refine z_cV h8 (k_count G I R.1) KX2_count IX2_count VX2_count rfl rfl rfl PX2_count rfl rfl rfl rfl ?_
  rw [hfr]
  refine z_go 90 rfl ?_
  rw [show (4 : Int32) * nI fr = nI (4 * fr) from n_mul 4 fr]
  refine z_get B1 rfl rfl rfl rfl ?_
  refine z_cV B2 (c_size (z := .null) G B2) KJx4a65c_size_8abf5 IJx4a65c_size_8abf5 VJx4a65c_size_8abf5 rfl rfl rfl PJx4a65c_size_8abf5 rfl rfl rfl rfl ?_
  refine z_go 90 rfl ?_
  rw [n_add]
  refine z_get B1 rfl rfl rfl rfl ?_
  refine z_new 10 (by decide) rfl rfl zn_10 ⟨by show h.2.1 + 1 ≤ _; omega, by show h.2.2 + 8 ≤ _; omega⟩ ?_
  refine z_go 90 rfl ?_
  refine z_cI (c_initV G (znew_at _ _ _) (nI (4 * fr + m)) A n) KX9_init IX9_init rfl rfl rfl rfl rfl PX9_init rfl rfl rfl rfl ?_
  rw [zset_new]
  have C : zAl X h (b0 + 1) rA mc m cap (fun j => if j < m then some (vA j) else none) := ⟨B2, by
    rcases B3 with ⟨z1, z2⟩ | ⟨z1, z2, z3⟩
    · exact Or.inl ⟨z1, z2⟩
    · exact Or.inr ⟨by omega, z2⟩, B4, by rcases B3 with ⟨z1, z2⟩ | ⟨z1, z2, z3⟩ <;> omega⟩
  have hel : zEl h (fun j => if j < m then some (vA j) else none) 0 cap := fun j _ _ y hy => by
    dsimp only at hy
    by_cases c : j < m
    · rw [if_pos c] at hy
      cases hy
      exact ⟨10, _, (B5 j c).1, zk10⟩
    · rw [if_neg c] at hy
      cases hy
  have hcl : cap ≤ 10 := by rcases B3 with ⟨z1, z2⟩ | ⟨z1, z2, z3⟩ <;> omega
  refine z_cV (zAl_new C wf).1 (c_add G (zAl_new C wf) (znew_at _ _ _) zk10 (zEl_new hel wf) (fun e => ⟨by show h.2.1 + 1 + 1 ≤ _; omega, by show h.2.2 + 8 + zgrow cap ≤ _; have := zgrow_l (cap := cap) (by omega); omega⟩)) KJx4a65c_add_9ea2d IJx4a65c_add_9ea2d VJx4a65c_add_9ea2d rfl rfl rfl PJx4a65c_add_9ea2d rfl rfl rfl rfl ?_
  obtain ⟨rA', cap', vA', Q1, Q2, Q3, Q4, Q5⟩ := zFb_push (Sy := Sy) B wf hm A n (by have := wf _ _ B2; omega) e11 e12
  refine z_go 90 rfl ?_
  refine z_cS (c_span G n (by omega)) KX2_spanOf SX2_spanOf rfl rfl PX2_spanOf rfl rfl rfl rfl ?_
  refine z_go 90 rfl ?_
  rw [n_add]
  exact z_iret rfl rfl ⟨by rw [show sSp n = sPad n from if_neg (by omega)], rA', cap', vA', Q1, zSt_fr R hlt hF Q2 Q3 Q5, Q4, Q2⟩
end ZAV
