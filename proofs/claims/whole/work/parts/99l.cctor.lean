section ZCT
variable {X : zCx} {h : zHp} {a : Nat}
theorem znew_set' (h : zHp) {a : Nat} (e e' : va_E) (k : Nat) (c : a < h.2.1) : znew (zset h a e) e' k = zset (znew h e' k) a e := znew_set h e e' k (by omega)
theorem znew_fix (g : zHp) {a : Nat} (Z H L : va_E) (k : Nat) (c : a < g.2.1) : zset (zset (znew g Z k) a H) g.2.1 L = zset (znew g L k) a H := by
  rw [zset_comm _ _ _ (show a ≠ g.2.1 by omega), zset_new]
/-- Memory(n), past its size -/
theorem c_initM2 (G : zG X) (N : Nat) (hN : 1024 ≤ N ∧ N ≤ 8192 ∧ N % 64 = 0) (ha : a < h.2.1) (hh : h.1 a = some (.inr (7, [.int 0, .int 0, .int 0, .null, .null]))) (hl : h.2.1 + 2 ≤ zB X + 601024 ∧ h.2.2 + 9300 ≤ 7293000) {x : Option Value} {fc fd : Nat} {Q : zRs → zHp → Prop} (hQ : Q (.inl none) (zset (znew (znew h (zI X N (fun _ => 0)) N) (zI X (N / 8) (sIniG N (N / 8))) (N / 8)) a (.inr (7, [.int (nI N), .int (nI (N / 8)), .int (nI (N / 4)), .ref h.2.1, .ref (h.2.1 + 1)])))) : Z X MX6_init (4, 220, fc, fd) h 33 [some (.ref a), x] [.int (nI N), .ref a] Q := by
  obtain ⟨n1, n2, n3⟩ := hN
  refine z_putF hh rfl rfl rfl rfl rfl rfl rfl rfl (by simp) ?_
  refine z_go 90 rfl ?_
  refine z_get (zset_at _ _ _) rfl rfl rfl rfl ?_
  refine z_go 90 rfl ?_
  refine z_div rfl (by decide) ?_
  refine z_go 90 rfl ?_
  rw [show nI N / (8 : Int32) = nI (N / 8) from n_div (b := 8) (by omega) (by omega) (by omega)]
  refine z_putF (zset_at _ _ _) rfl rfl rfl rfl rfl rfl rfl rfl (by simp) ?_
  rw [zset_set]
  refine z_go 90 rfl ?_
  refine z_get (zset_at _ _ _) rfl rfl rfl rfl ?_
  refine z_go 90 rfl ?_
  refine z_div rfl (by decide) ?_
  refine z_go 90 rfl ?_
  rw [show nI N / (4 : Int32) = nI (N / 4) from n_div (b := 4) (by omega) (by omega) (by omega)]
  refine z_putF (zset_at _ _ _) rfl rfl rfl rfl rfl rfl rfl rfl (by simp) ?_
  rw [zset_set]
  refine z_go 90 rfl ?_
  refine z_get (zset_at _ _ _) rfl rfl rfl rfl ?_
  refine z_newI N rfl (i_nI (by omega)) (by omega) ⟨by show h.2.1 + 1 ≤ _; omega, by show h.2.2 + N ≤ _; omega⟩ ?_
  rw [znew_set' _ _ _ _ ha]
  refine z_go 90 rfl ?_
  refine z_putF (zset_at _ _ _) rfl rfl rfl rfl rfl rfl rfl rfl (by simp) ?_
  rw [zset_set]
  refine z_go 90 rfl ?_
  refine z_get (zset_at _ _ _) rfl rfl rfl rfl ?_
  refine z_go 90 rfl ?_
  refine z_div rfl (by decide) ?_
  refine z_go 90 rfl ?_
  rw [show nI N / (8 : Int32) = nI (N / 8) from n_div (b := 8) (by omega) (by omega) (by omega)]
  refine z_newI (N / 8) rfl (i_nI (by omega)) (by omega) ⟨by show h.2.1 + 1 + 1 ≤ _; omega, by show h.2.2 + N + N / 8 ≤ _; omega⟩ ?_
  rw [znew_set' _ _ _ _ (show a < (znew h _ _).2.1 by show a < h.2.1 + 1; omega)]
  refine z_go 90 rfl ?_
  refine z_putF (zset_at _ _ _) rfl rfl rfl rfl rfl rfl rfl rfl (by simp) ?_
  rw [zset_set]
  have Mm : ∀ g0 : Nat → Int32, zMem X (zset (znew (znew h (zI X N (fun _ => 0)) N) (zI X (N / 8) g0) (N / 8)) a (.inr (7, [.int (nI N), .int (nI (N / 8)), .int (nI (N / 4)), .ref h.2.1, .ref (h.2.1 + 1)]))) a h.2.1 (h.2.1 + 1) N (fun _ => 0) g0 := fun g0 => ⟨zset_at _ _ _, by
    rw [zset_ne _ _ (by omega), znew_ne _ _ _ (by show h.2.1 ≠ h.2.1 + 1; omega)]
    exact znew_at _ _ _, by
    rw [zset_ne _ _ (by omega)]
    exact znew_at _ _ _, n1, n2, n3, by omega⟩
  have pt : ∀ g0 g1 : Nat → Int32, zset (zset (znew (znew h (zI X N (fun _ => 0)) N) (zI X (N / 8) g0) (N / 8)) a (.inr (7, [.int (nI N), .int (nI (N / 8)), .int (nI (N / 4)), .ref h.2.1, .ref (h.2.1 + 1)]))) (h.2.1 + 1) (zI X (N / 8) g1) = zset (znew (znew h (zI X N (fun _ => 0)) N) (zI X (N / 8) g1) (N / 8)) a (.inr (7, [.int (nI N), .int (nI (N / 8)), .int (nI (N / 4)), .ref h.2.1, .ref (h.2.1 + 1)])) := fun g0 g1 => by
    rw [zset_comm _ _ _ (show a ≠ h.2.1 + 1 by omega)]
    exact congrArg (fun z => zset z a _) (zset_new (znew h (zI X N (fun _ => 0)) N) (zI X (N / 8) g0) (zI X (N / 8) g1) (N / 8))
  refine z_go 90 rfl ?_
  refine z_get (zset_at _ _ _) rfl rfl rfl rfl ?_
  refine z_go 90 rfl ?_
  refine z_cV (Mm _).1 (c_paint G (Mm _) 0 (N / 8) 249 (by omega)) KX6_paint IX6_paint VX6_paint rfl rfl rfl PX6_paint rfl rfl rfl rfl ?_
  rw [pt]
  refine z_go 90 rfl ?_
  refine z_get (zset_at _ _ _) rfl rfl rfl rfl ?_
  refine z_go 90 rfl ?_
  refine z_get (zset_at _ _ _) rfl rfl rfl rfl ?_
  refine z_go 90 rfl ?_
  refine z_get (zset_at _ _ _) rfl rfl rfl rfl ?_
  refine z_go 90 rfl ?_
  rw [n_sub (show N / 4 ≤ N by omega) (by omega)]
  refine z_cV (Mm _).1 (c_paint G (Mm _) (N / 4) (N - N / 4) 250 (by omega)) KX6_paint IX6_paint VX6_paint rfl rfl rfl PX6_paint rfl rfl rfl rfl ?_
  rw [pt]
  have eg : gPaint (gPaint (fun _ => 0) 0 (0 + N / 8) 249) (N / 4) (N / 4 + (N - N / 4)) 250 = sIniG N (N / 8) := by
    funext g
    unfold gPaint sIniG
    by_cases c1 : g < N / 8
    · rw [if_pos c1]
      by_cases c2 : 8 * g < N / 8
      · rw [if_pos c2, if_neg (by omega), if_pos (by omega)]
      · rw [if_neg c2]
        by_cases c3 : 8 * g < N / 4
        · rw [if_pos c3, if_neg (by omega), if_neg (by omega)]
        · rw [if_neg c3, if_pos (by omega)]
    · rw [if_neg c1, if_neg (by omega), if_neg (by omega)]
  rw [eg]
  exact z_vret rfl rfl hQ
theorem c_initM (G : zG X) (p : Int32) (ha : a < h.2.1) (hh : h.1 a = some (.inr (7, [.int 0, .int 0, .int 0, .null, .null]))) (hl : h.2.1 + 2 ≤ zB X + 601024 ∧ h.2.2 + 9300 ≤ 7293000) : ZM X MX6_init 4 220 [.ref a, .int p] h (zX (zset (znew (znew h (zI X (sNn p) (fun _ => 0)) (sNn p)) (zI X (sNn p / 8) (sIniG (sNn p) (sNn p / 8))) (sNn p / 8)) a (.inr (7, [.int (nI (sNn p)), .int (nI (sNn p / 8)), .int (nI (sNn p / 4)), .ref h.2.1, .ref (h.2.1 + 1)]))) none) := by
  have t1 : (1024 : Int32).toInt = 1024 := rfl
  have t2 : (8192 : Int32).toInt = 8192 := rfl
  refine zm_of_z G KX6_init rfl rfl ?_
  refine z_go 90 rfl ?_
  refine z_obj rfl rfl zoiI zoiC rfl rfl rfl ?_
  refine z_go 90 rfl ?_
  refine z_br rfl rfl (fun c => ?_) (fun c => ?_) <;> (try dsimp only at c)
  · rw [i_lt] at c
    rw [show sNn p = 4096 from if_neg (by omega)]
    refine z_go 90 rfl ?_
    exact c_initM2 G 4096 (by decide) ha hh hl ⟨rfl, rfl⟩
  rw [i_lt] at c
  refine z_go 90 rfl ?_
  refine z_br rfl rfl (fun d => ?_) (fun d => ?_) <;> (try dsimp only at d)
  · rw [i_lt] at d
    rw [show sNn p = 4096 from if_neg (by omega)]
    refine z_go 90 rfl ?_
    exact c_initM2 G 4096 (by decide) ha hh hl ⟨rfl, rfl⟩
  rw [i_lt] at d
  obtain ⟨n, rfl, hn⟩ := i_nat (x := p) (by omega)
  rw [i_nI hn] at c d
  refine z_go 90 rfl ?_
  refine z_rem rfl (by decide) ?_
  rw [show nI n - nI n / (64 : Int32) * (64 : Int32) = nI (n % 64) from n_rem (b := 64) (by omega) (by omega) (by omega)]
  refine z_ite (p := n % 64 = 0) (fun e => ?_) (fun e => ?_)
  · rw [e]
    have en : sNn (nI n) = n := by
      unfold sNn
      rw [i_nI hn, if_pos (by omega), Int.toNat_natCast]
    rw [en]
    refine z_br rfl rfl (fun c => absurd c (by first | decide | (dsimp only; decide))) (fun _ => ?_)
    refine z_go 90 rfl ?_
    exact c_initM2 G n (by omega) ha hh hl ⟨rfl, rfl⟩
  · rw [show sNn (nI n) = 4096 by unfold sNn; rw [i_nI hn, if_neg (by omega)]]
    refine z_br rfl rfl (fun _ => ?_) (fun c => absurd c (by
      show ¬ nI (n % 64) = nI 0
      rw [n_eq (by omega) (by omega)]
      exact e))
    refine z_go 90 rfl ?_
    exact c_initM2 G 4096 (by decide) ha hh hl ⟨rfl, rfl⟩
theorem c_initG (G : zG X) {t0 xm : Nat} (hD : zDef X t0) (ha : a < h.2.1) (hh : h.1 a = some (.inr (4, [.null, .null]))) (hl : h.2.1 + 1 ≤ zB X + 601024 ∧ h.2.2 + 3 ≤ 7293000) : ZM X MX3_init 4 220 [.ref a, .ref xm] h (zX (zset (znew h (zLc 0 t0 0) 3) a (.inr (4, [.ref xm, .ref h.2.1]))) none) := by
  refine zm_of_z G KX3_init rfl rfl ?_
  refine z_go 90 rfl ?_
  refine z_obj rfl rfl zoiI zoiC rfl rfl rfl ?_
  refine z_go 90 rfl ?_
  refine z_new 0 (by decide) rfl rfl zn_0 ⟨hl.1, hl.2⟩ ?_
  refine z_go 90 rfl ?_
  refine z_cI (c_initA G hD (znew_at _ _ _)) KJx4a65c_init_da8c8 IJx4a65c_init_da8c8 rfl rfl rfl rfl rfl PJx4a65c_init_da8c8 rfl rfl rfl rfl ?_
  rw [zset_new]
  refine z_putF (show (znew h _ _).1 a = _ by rw [znew_ne _ _ _ (by omega)]; exact hh) rfl rfl rfl rfl rfl rfl rfl rfl (by simp) ?_
  refine z_go 90 rfl ?_
  refine z_putF (zset_at _ _ _) rfl rfl rfl rfl rfl rfl rfl rfl (by simp) ?_
  rw [zset_set]
  exact z_vret rfl rfl ⟨rfl, rfl⟩
theorem c_initFs (G : zG X) {t0 xm : Nat} (hD : zDef X t0) (ha : a < h.2.1) (hh : h.1 a = some (.inr (3, [.null, .null]))) (hl : h.2.1 + 1 ≤ zB X + 601024 ∧ h.2.2 + 3 ≤ 7293000) : ZM X MX2_init 4 220 [.ref a, .ref xm] h (zX (zset (znew h (zLc 0 t0 0) 3) a (.inr (3, [.ref xm, .ref h.2.1]))) none) := by
  refine zm_of_z G KX2_init rfl rfl ?_
  refine z_go 90 rfl ?_
  refine z_obj rfl rfl zoiI zoiC rfl rfl rfl ?_
  refine z_go 90 rfl ?_
  refine z_new 0 (by decide) rfl rfl zn_0 ⟨hl.1, hl.2⟩ ?_
  refine z_go 90 rfl ?_
  refine z_cI (c_initA G hD (znew_at _ _ _)) KJx4a65c_init_da8c8 IJx4a65c_init_da8c8 rfl rfl rfl rfl rfl PJx4a65c_init_da8c8 rfl rfl rfl rfl ?_
  rw [zset_new]
  refine z_putF (show (znew h _ _).1 a = _ by rw [znew_ne _ _ _ (by omega)]; exact hh) rfl rfl rfl rfl rfl rfl rfl rfl (by simp) ?_
  refine z_go 90 rfl ?_
  refine z_putF (zset_at _ _ _) rfl rfl rfl rfl rfl rfl rfl rfl (by simp) ?_
  rw [zset_set]
  exact z_vret rfl rfl ⟨rfl, rfl⟩
theorem c_initLs (G : zG X) {t0 xm xg xf xh : Nat} (hD : zDef X t0) (ha : a < h.2.1) (hh : h.1 a = some (.inr (6, [.null, .null, .null, .null, .null]))) (hl : h.2.1 + 1 ≤ zB X + 601024 ∧ h.2.2 + 3 ≤ 7293000) : ZM X MX5_init 4 220 [.ref a, .ref xm, .ref xg, .ref xf, .ref xh] h (zX (zset (znew h (zLc 0 t0 0) 3) a (.inr (6, [.ref xm, .ref xg, .ref xf, .ref xh, .ref h.2.1]))) none) := by
  refine zm_of_z G KX5_init rfl rfl ?_
  refine z_go 90 rfl ?_
  refine z_obj rfl rfl zoiI zoiC rfl rfl rfl ?_
  refine z_go 90 rfl ?_
  refine z_new 0 (by decide) rfl rfl zn_0 ⟨hl.1, hl.2⟩ ?_
  refine z_go 90 rfl ?_
  refine z_cI (c_initA G hD (znew_at _ _ _)) KJx4a65c_init_da8c8 IJx4a65c_init_da8c8 rfl rfl rfl rfl rfl PJx4a65c_init_da8c8 rfl rfl rfl rfl ?_
  rw [zset_new]
  refine z_putF (show (znew h _ _).1 a = _ by rw [znew_ne _ _ _ (by omega)]; exact hh) rfl rfl rfl rfl rfl rfl rfl rfl (by simp) ?_
  refine z_go 90 rfl ?_
  refine z_putF (zset_at _ _ _) rfl rfl rfl rfl rfl rfl rfl rfl (by simp) ?_
  refine z_go 90 rfl ?_
  refine z_putF (zset_at _ _ _) rfl rfl rfl rfl rfl rfl rfl rfl (by simp) ?_
  refine z_go 90 rfl ?_
  refine z_putF (zset_at _ _ _) rfl rfl rfl rfl rfl rfl rfl rfl (by simp) ?_
  refine z_go 90 rfl ?_
  refine z_putF (zset_at _ _ _) rfl rfl rfl rfl rfl rfl rfl rfl (by simp) ?_
  rw [zset_set, zset_set, zset_set, zset_set]
  exact z_vret rfl rfl ⟨rfl, rfl⟩
theorem c_initH2 (G : zG X) {xm N Q9 : Nat} {v3 v4 v5 : Value} {l1 l2 : Nat} {g : zHp} (hN : 1024 ≤ N ∧ N ≤ 8192) (ha : a < g.2.1) (hne : xm ≠ a) (hm : g.1 xm = some (.inr (7, [.int (nI N), v3, .int (nI (N / 4)), v4, v5]))) (hg : g.1 a = some (.inr (5, [.ref xm, .int 0, .ref l1, .ref l2, .null, .int 0, .int 0, .int 0]))) (hl : g.2.1 + 1 ≤ zB X + 601024 ∧ g.2.2 + 600 ≤ 7293000) {q : Int32} {fc fd : Nat} {Q : zRs → zHp → Prop} (hQ : Q (.inl none) (zset (znew g (zBk X ((N - N / 4) / 16) (fun _ => none)) ((N - N / 4) / 16)) a (.inr (5, [.ref xm, .int (nI Q9), .ref l1, .ref l2, .ref g.2.1, .int 0, .int 0, .int 0])))) : Z X MX4_init (4, 220, fc, fd) g 66 [some (.ref a), some (.ref xm), some (.int q)] [.int (nI Q9), .ref a] Q := by
  have hm' : ∀ e, (zset g a e).1 xm = some (.inr (7, [.int (nI N), v3, .int (nI (N / 4)), v4, v5])) := fun e => by
    rw [zset_ne _ _ hne]
    exact hm
  refine z_putF hg rfl rfl rfl rfl rfl rfl rfl rfl (by simp) ?_
  refine z_go 90 rfl ?_
  refine z_get (hm' _) rfl rfl rfl rfl ?_
  refine z_go 90 rfl ?_
  refine z_get (hm' _) rfl rfl rfl rfl ?_
  refine z_go 90 rfl ?_
  rw [n_sub (show N / 4 ≤ N by omega) (by omega)]
  refine z_div rfl (by decide) ?_
  refine z_go 90 rfl ?_
  rw [show nI (N - N / 4) / (16 : Int32) = nI ((N - N / 4) / 16) from n_div (b := 16) (by omega) (by omega) (by omega)]
  refine z_newB ((N - N / 4) / 16) rfl rfl (i_nI (by omega)) (by omega) ⟨by show g.2.1 + 1 ≤ _; omega, by show g.2.2 + (N - N / 4) / 16 ≤ _; omega⟩ ?_
  rw [znew_set' _ _ _ _ ha]
  refine z_putF (zset_at _ _ _) rfl rfl rfl rfl rfl rfl rfl rfl (by simp) ?_
  rw [zset_set]
  exact z_vret rfl rfl hQ
theorem c_initH (G : zG X) {t0 xm : Nat} {p q : Int32} {v3 v4 v5 : Value} (hD : zDef X t0) (ha : a < h.2.1) (hne : xm ≠ a) (hx : xm < h.2.1) (hm : h.1 xm = some (.inr (7, [.int (nI (sNn p)), v3, .int (nI (sNn p / 4)), v4, v5]))) (hh : h.1 a = some (.inr (5, [.null, .int 0, .null, .null, .null, .int 0, .int 0, .int 0]))) (hl : h.2.1 + 3 ≤ zB X + 601024 ∧ h.2.2 + 610 ≤ 7293000) : ZM X MX4_init 4 220 [.ref a, .ref xm, .int q] h (zX (zset (znew (znew (znew h (zLc 0 t0 0) 3) (zLc 0 t0 0) 3) (zBk X ((sNn p - sNn p / 4) / 16) (fun _ => none)) ((sNn p - sNn p / 4) / 16)) a (.inr (5, [.ref xm, .int (nI (sQq p q)), .ref h.2.1, .ref (h.2.1 + 1), .ref (h.2.1 + 2), .int 0, .int 0, .int 0]))) none) := by
  have hN := sNn_b p
  have tN := i_nI (n := sNn p) (by omega)
  have t0' : (0 : Int32).toInt = 0 := rfl
  refine zm_of_z G KX4_init rfl rfl ?_
  refine z_go 90 rfl ?_
  refine z_obj rfl rfl zoiI zoiC rfl rfl rfl ?_
  refine z_go 90 rfl ?_
  refine z_new 0 (by decide) rfl rfl zn_0 ⟨by show h.2.1 + 1 ≤ _; omega, by show h.2.2 + 3 ≤ _; omega⟩ ?_
  refine z_go 90 rfl ?_
  refine z_cI (c_initA G hD (znew_at _ _ _)) KJx4a65c_init_da8c8 IJx4a65c_init_da8c8 rfl rfl rfl rfl rfl PJx4a65c_init_da8c8 rfl rfl rfl rfl ?_
  rw [zset_new]
  refine z_putF (show (znew h _ _).1 a = _ by rw [znew_ne _ _ _ (by omega)]; exact hh) rfl rfl rfl rfl rfl rfl rfl rfl (by simp) ?_
  refine z_go 90 rfl ?_
  refine z_new 0 (by decide) rfl rfl zn_0 ⟨by show h.2.1 + 1 + 1 ≤ _; omega, by show h.2.2 + 3 + 3 ≤ _; omega⟩ ?_
  rw [znew_set' _ _ _ _ (show a < (znew h _ _).2.1 by show a < h.2.1 + 1; omega)]
  refine z_go 90 rfl ?_
  refine z_cI (c_initA G hD (show (zset (znew (znew h _ _) _ _) a _).1 (h.2.1 + 1) = _ by rw [zset_ne _ _ (by omega)]; exact znew_at _ _ _)) KJx4a65c_init_da8c8 IJx4a65c_init_da8c8 rfl rfl rfl rfl rfl PJx4a65c_init_da8c8 rfl rfl rfl rfl ?_
  refine z_cong (znew_fix (znew h (zLc 0 t0 0) 3) (.inr (0, [.int 0, .null, .int 0])) (.inr (5, [.null, .int 0, .ref h.2.1, .null, .null, .int 0, .int 0, .int 0])) (zLc 0 t0 0) 3 (show a < h.2.1 + 1 by omega)) rfl rfl ?_
  refine z_putF (zset_at _ _ _) rfl rfl rfl rfl rfl rfl rfl rfl (by simp) ?_
  refine z_go 90 rfl ?_
  refine z_put (zset_at _ _ _) rfl rfl rfl rfl rfl rfl (by simp) ?_
  refine z_go 90 rfl ?_
  refine z_put (zset_at _ _ _) rfl rfl rfl rfl rfl rfl (by simp) ?_
  refine z_go 90 rfl ?_
  refine z_put (zset_at _ _ _) rfl rfl rfl rfl rfl rfl (by simp) ?_
  refine z_go 90 rfl ?_
  refine z_putF (zset_at _ _ _) rfl rfl rfl rfl rfl rfl rfl rfl (by simp) ?_
  rw [zset_set, zset_set, zset_set, zset_set, zset_set]
  have hm2 : ∀ e, (zset (znew (znew h (zLc 0 t0 0) 3) (zLc 0 t0 0) 3) a e).1 xm = some (.inr (7, [.int (nI (sNn p)), v3, .int (nI (sNn p / 4)), v4, v5])) := fun e => by
    rw [zset_ne _ _ hne, znew_ne _ _ _ (by show xm ≠ h.2.1 + 1; omega), znew_ne _ _ _ (by omega)]
    exact hm
  have fin : ∀ Q9 : Nat, Q9 = sQq p q → Z X MX4_init (4, 220, h.2.1, h.2.2) (zset (znew (znew h (zLc 0 t0 0) 3) (zLc 0 t0 0) 3) a (.inr (5, [.ref xm, .int 0, .ref h.2.1, .ref (h.2.1 + 1), .null, .int 0, .int 0, .int 0]))) 66 [some (.ref a), some (.ref xm), some (.int q)] [.int (nI Q9), .ref a] (zX (zset (znew (znew (znew h (zLc 0 t0 0) 3) (zLc 0 t0 0) 3) (zBk X ((sNn p - sNn p / 4) / 16) (fun _ => none)) ((sNn p - sNn p / 4) / 16)) a (.inr (5, [.ref xm, .int (nI (sQq p q)), .ref h.2.1, .ref (h.2.1 + 1), .ref (h.2.1 + 2), .int 0, .int 0, .int 0]))) none) := by
    rintro Q9 rfl
    refine c_initH2 G (N := sNn p) ⟨hN.1, hN.2.1⟩ (show a < h.2.1 + 1 + 1 by omega) hne (hm2 _) (zset_at _ _ _) ⟨by show h.2.1 + 1 + 1 + 1 ≤ _; omega, by show h.2.2 + 3 + 3 + 600 ≤ _; omega⟩ ⟨?_, rfl⟩
    rw [znew_set' _ _ _ _ (show a < (znew (znew h _ _) _ _).2.1 by show a < h.2.1 + 1 + 1; omega), zset_set]
    rfl
  refine z_go 90 rfl ?_
  refine z_br rfl rfl (fun c => ?_) (fun c => ?_) <;> (try dsimp only at c)
  · rw [i_lt] at c
    refine z_go 90 rfl ?_
    exact fin 1024 (by rw [show sQq p q = 1024 from if_neg (by omega)])
  rw [i_lt] at c
  refine z_go 90 rfl ?_
  refine z_get (hm2 _) rfl rfl rfl rfl ?_
  refine z_br rfl rfl (fun d => ?_) (fun d => ?_) <;> (try dsimp only at d)
  · rw [i_lt, tN] at d
    refine z_go 90 rfl ?_
    exact fin 1024 (by rw [show sQq p q = 1024 from if_neg (by omega)])
  · rw [i_lt, tN] at d
    obtain ⟨n, rfl, hn⟩ := i_nat (x := q) (by omega)
    refine z_go 90 rfl ?_
    refine fin n ?_
    rw [i_nI hn] at d
    unfold sQq
    rw [i_nI hn, if_pos (by omega), Int.toNat_natCast]
end ZCT
