section ZRP
variable {X : zCx} {h : zHp} {a b A n : Nat} {pl nu gv fd : Int32}
abbrev zR0 : va_E := .inr (9, [.int 0, .int 0, .int 0, .int 0, .int 0, .int 0, .int 0, .int 0, .int 0, .int 0])
theorem c_rep0 (G : zG X) (hh : h.1 a = some zR0) (kd w many rw' : Int32) : ZM X MX8_init 1 127 [.ref a, .int kd, .int w, .int many, .int rw', .null] h (zX (zset h a (.inr (9, [.int kd, .int w, .int many, .int rw', .int 0, .int (-1), .int 0, .int 0, .int 0, .int 0]))) none) := by
  refine zm_of_z G KX8_init rfl rfl ?_
  refine z_go 90 rfl ?_
  refine z_obj rfl rfl zoiI zoiC rfl rfl rfl ?_
  refine z_go 90 rfl ?_
  refine z_put hh rfl rfl rfl rfl rfl rfl (by simp) ?_
  refine z_go 90 rfl ?_
  refine z_put (zset_at _ _ _) rfl rfl rfl rfl rfl rfl (by simp) ?_
  refine z_go 90 rfl ?_
  refine z_put (zset_at _ _ _) rfl rfl rfl rfl rfl rfl (by simp) ?_
  refine z_go 90 rfl ?_
  refine z_put (zset_at _ _ _) rfl rfl rfl rfl rfl rfl (by simp) ?_
  refine z_go 90 rfl ?_
  refine z_put (zset_at _ _ _) rfl rfl rfl rfl rfl rfl (by simp) ?_
  refine z_go 90 rfl ?_
  refine z_put (zset_at _ _ _) rfl rfl rfl rfl rfl rfl (by simp) ?_
  refine z_go 90 rfl ?_
  refine z_putF (zset_at _ _ _) rfl rfl rfl rfl rfl rfl rfl rfl (by simp) ?_
  refine z_go 90 rfl ?_
  refine z_putF (zset_at _ _ _) rfl rfl rfl rfl rfl rfl rfl rfl (by simp) ?_
  refine z_go 90 rfl ?_
  refine z_putF (zset_at _ _ _) rfl rfl rfl rfl rfl rfl rfl rfl (by simp) ?_
  refine z_go 90 rfl ?_
  refine z_putF (zset_at _ _ _) rfl rfl rfl rfl rfl rfl rfl rfl (by simp) ?_
  refine z_go 90 rfl ?_
  rw [zset_set, zset_set, zset_set, zset_set, zset_set, zset_set, zset_set, zset_set, zset_set]
  exact z_vret rfl rfl ⟨rfl, rfl⟩
theorem c_rep8 (G : zG X) (hh : h.1 a = some zR0) (hb : h.1 b = some (.inr (8, zRgF pl nu A n gv fd []))) (kd many rw' : Int32) (z : Nat) (hz : z ≤ 20000) (hA : A ≤ 20000) (hn : n ≤ 20000) : ZM X MX8_init 1 127 [.ref a, .int kd, .int (nI z), .int many, .int rw', .ref b] h (zX (zset h a (.inr (9, [.int kd, .int (nI z), .int many, .int rw', .int pl, .int nu, .int (nI (sFar z A n)), .int (nI (sSide z A n)), .int gv, .int fd]))) none) := by
  have hne : b ≠ a := by
    rintro rfl
    rw [hh] at hb
    cases hb
  have hb' : ∀ e, (zset h a e).1 b = some (.inr (8, zRgF pl nu A n gv fd [])) := fun e => by rw [zset_ne _ _ hne]; exact hb
  refine zm_of_z G KX8_init rfl rfl ?_
  refine z_go 90 rfl ?_
  refine z_obj rfl rfl zoiI zoiC rfl rfl rfl ?_
  refine z_go 90 rfl ?_
  refine z_put hh rfl rfl rfl rfl rfl rfl (by simp) ?_
  refine z_go 90 rfl ?_
  refine z_put (zset_at _ _ _) rfl rfl rfl rfl rfl rfl (by simp) ?_
  refine z_go 90 rfl ?_
  refine z_put (zset_at _ _ _) rfl rfl rfl rfl rfl rfl (by simp) ?_
  refine z_go 90 rfl ?_
  refine z_put (zset_at _ _ _) rfl rfl rfl rfl rfl rfl (by simp) ?_
  refine z_go 90 rfl ?_
  refine z_put (zset_at _ _ _) rfl rfl rfl rfl rfl rfl (by simp) ?_
  refine z_go 90 rfl ?_
  refine z_put (zset_at _ _ _) rfl rfl rfl rfl rfl rfl (by simp) ?_
  refine z_go 90 rfl ?_
  refine z_putF (zset_at _ _ _) rfl rfl rfl rfl rfl rfl rfl rfl (by simp) ?_
  refine z_go 90 rfl ?_
  refine z_putF (zset_at _ _ _) rfl rfl rfl rfl rfl rfl rfl rfl (by simp) ?_
  refine z_go 90 rfl ?_
  refine z_putF (zset_at _ _ _) rfl rfl rfl rfl rfl rfl rfl rfl (by simp) ?_
  refine z_go 90 rfl ?_
  refine z_putF (zset_at _ _ _) rfl rfl rfl rfl rfl rfl rfl rfl (by simp) ?_
  refine z_go 90 rfl ?_
  rw [zset_set, zset_set, zset_set, zset_set, zset_set, zset_set, zset_set, zset_set, zset_set]
  refine z_get (hb' _) rfl rfl rfl rfl ?_
  refine z_put (zset_at _ _ _) rfl rfl rfl rfl rfl rfl (by simp) ?_
  rw [zset_set]
  refine z_go 90 rfl ?_
  refine z_get (hb' _) rfl rfl rfl rfl ?_
  refine z_put (zset_at _ _ _) rfl rfl rfl rfl rfl rfl (by simp) ?_
  rw [zset_set]
  refine z_go 90 rfl ?_
  refine z_cV (hb' _) (c_far8 G (hb' _) z hz hA hn) KX7_farFrom IX7_farFrom VX7_farFrom rfl rfl rfl PX7_farFrom rfl rfl rfl rfl ?_
  refine z_put (zset_at _ _ _) rfl rfl rfl rfl rfl rfl (by simp) ?_
  rw [zset_set]
  refine z_go 90 rfl ?_
  refine z_cV (hb' _) (c_side8 G (hb' _) z hz hA hn) KX7_sideOf IX7_sideOf VX7_sideOf rfl rfl rfl PX7_sideOf rfl rfl rfl rfl ?_
  refine z_put (zset_at _ _ _) rfl rfl rfl rfl rfl rfl (by simp) ?_
  rw [zset_set]
  refine z_go 90 rfl ?_
  refine z_get (hb' _) rfl rfl rfl rfl ?_
  refine z_put (zset_at _ _ _) rfl rfl rfl rfl rfl rfl (by simp) ?_
  rw [zset_set]
  refine z_go 90 rfl ?_
  refine z_get (hb' _) rfl rfl rfl rfl ?_
  refine z_put (zset_at _ _ _) rfl rfl rfl rfl rfl rfl (by simp) ?_
  rw [zset_set]
  exact z_vret rfl rfl ⟨rfl, rfl⟩
theorem c_rep10 (G : zG X) {w1 : Int32} (hh : h.1 a = some zR0) (hb : h.1 b = some (.inr (10, zRgF pl nu A n gv fd [.int w1]))) (kd many rw' : Int32) (z : Nat) (hz : z ≤ 20000) (hA : A ≤ 20000) (hn : n ≤ 20000) : ZM X MX8_init 1 127 [.ref a, .int kd, .int (nI z), .int many, .int rw', .ref b] h (zX (zset h a (.inr (9, [.int kd, .int (nI z), .int many, .int rw', .int pl, .int nu, .int (nI (sFar z A n)), .int (nI (sSide z A n)), .int gv, .int fd]))) none) := by
  have hne : b ≠ a := by
    rintro rfl
    rw [hh] at hb
    cases hb
  have hb' : ∀ e, (zset h a e).1 b = some (.inr (10, zRgF pl nu A n gv fd [.int w1])) := fun e => by rw [zset_ne _ _ hne]; exact hb
  refine zm_of_z G KX8_init rfl rfl ?_
  refine z_go 90 rfl ?_
  refine z_obj rfl rfl zoiI zoiC rfl rfl rfl ?_
  refine z_go 90 rfl ?_
  refine z_put hh rfl rfl rfl rfl rfl rfl (by simp) ?_
  refine z_go 90 rfl ?_
  refine z_put (zset_at _ _ _) rfl rfl rfl rfl rfl rfl (by simp) ?_
  refine z_go 90 rfl ?_
  refine z_put (zset_at _ _ _) rfl rfl rfl rfl rfl rfl (by simp) ?_
  refine z_go 90 rfl ?_
  refine z_put (zset_at _ _ _) rfl rfl rfl rfl rfl rfl (by simp) ?_
  refine z_go 90 rfl ?_
  refine z_put (zset_at _ _ _) rfl rfl rfl rfl rfl rfl (by simp) ?_
  refine z_go 90 rfl ?_
  refine z_put (zset_at _ _ _) rfl rfl rfl rfl rfl rfl (by simp) ?_
  refine z_go 90 rfl ?_
  refine z_putF (zset_at _ _ _) rfl rfl rfl rfl rfl rfl rfl rfl (by simp) ?_
  refine z_go 90 rfl ?_
  refine z_putF (zset_at _ _ _) rfl rfl rfl rfl rfl rfl rfl rfl (by simp) ?_
  refine z_go 90 rfl ?_
  refine z_putF (zset_at _ _ _) rfl rfl rfl rfl rfl rfl rfl rfl (by simp) ?_
  refine z_go 90 rfl ?_
  refine z_putF (zset_at _ _ _) rfl rfl rfl rfl rfl rfl rfl rfl (by simp) ?_
  refine z_go 90 rfl ?_
  rw [zset_set, zset_set, zset_set, zset_set, zset_set, zset_set, zset_set, zset_set, zset_set]
  refine z_get (hb' _) rfl rfl rfl rfl ?_
  refine z_put (zset_at _ _ _) rfl rfl rfl rfl rfl rfl (by simp) ?_
  rw [zset_set]
  refine z_go 90 rfl ?_
  refine z_get (hb' _) rfl rfl rfl rfl ?_
  refine z_put (zset_at _ _ _) rfl rfl rfl rfl rfl rfl (by simp) ?_
  rw [zset_set]
  refine z_go 90 rfl ?_
  refine z_cV (hb' _) (c_far10 G (hb' _) z hz hA hn) KX7_farFrom IX7_farFrom VX7_farFrom_Variable rfl rfl rfl PX7_farFrom rfl rfl rfl rfl ?_
  refine z_put (zset_at _ _ _) rfl rfl rfl rfl rfl rfl (by simp) ?_
  rw [zset_set]
  refine z_go 90 rfl ?_
  refine z_cV (hb' _) (c_side10 G (hb' _) z hz hA hn) KX7_sideOf IX7_sideOf VX7_sideOf_Variable rfl rfl rfl PX7_sideOf rfl rfl rfl rfl ?_
  refine z_put (zset_at _ _ _) rfl rfl rfl rfl rfl rfl (by simp) ?_
  rw [zset_set]
  refine z_go 90 rfl ?_
  refine z_get (hb' _) rfl rfl rfl rfl ?_
  refine z_put (zset_at _ _ _) rfl rfl rfl rfl rfl rfl (by simp) ?_
  rw [zset_set]
  refine z_go 90 rfl ?_
  refine z_get (hb' _) rfl rfl rfl rfl ?_
  refine z_put (zset_at _ _ _) rfl rfl rfl rfl rfl rfl (by simp) ?_
  rw [zset_set]
  exact z_vret rfl rfl ⟨rfl, rfl⟩
theorem c_rep1 (G : zG X) {x1 x2 x3 x4 x5 x6 : Int32} (hh : h.1 a = some zR0) (hb : h.1 b = some (.inr (1, zRgF pl nu A n gv fd [.int x1, .int x2, .int x3, .int x4, .int x5, .int x6]))) (kd many rw' : Int32) (z : Nat) (hz : z ≤ 20000) (hA : A ≤ 20000) (hn : n ≤ 20000) : ZM X MX8_init 1 127 [.ref a, .int kd, .int (nI z), .int many, .int rw', .ref b] h (zX (zset h a (.inr (9, [.int kd, .int (nI z), .int many, .int rw', .int pl, .int nu, .int (nI (sFar z A n)), .int (nI (sSide z A n)), .int gv, .int fd]))) none) := by
  have hne : b ≠ a := by
    rintro rfl
    rw [hh] at hb
    cases hb
  have hb' : ∀ e, (zset h a e).1 b = some (.inr (1, zRgF pl nu A n gv fd [.int x1, .int x2, .int x3, .int x4, .int x5, .int x6])) := fun e => by rw [zset_ne _ _ hne]; exact hb
  refine zm_of_z G KX8_init rfl rfl ?_
  refine z_go 90 rfl ?_
  refine z_obj rfl rfl zoiI zoiC rfl rfl rfl ?_
  refine z_go 90 rfl ?_
  refine z_put hh rfl rfl rfl rfl rfl rfl (by simp) ?_
  refine z_go 90 rfl ?_
  refine z_put (zset_at _ _ _) rfl rfl rfl rfl rfl rfl (by simp) ?_
  refine z_go 90 rfl ?_
  refine z_put (zset_at _ _ _) rfl rfl rfl rfl rfl rfl (by simp) ?_
  refine z_go 90 rfl ?_
  refine z_put (zset_at _ _ _) rfl rfl rfl rfl rfl rfl (by simp) ?_
  refine z_go 90 rfl ?_
  refine z_put (zset_at _ _ _) rfl rfl rfl rfl rfl rfl (by simp) ?_
  refine z_go 90 rfl ?_
  refine z_put (zset_at _ _ _) rfl rfl rfl rfl rfl rfl (by simp) ?_
  refine z_go 90 rfl ?_
  refine z_putF (zset_at _ _ _) rfl rfl rfl rfl rfl rfl rfl rfl (by simp) ?_
  refine z_go 90 rfl ?_
  refine z_putF (zset_at _ _ _) rfl rfl rfl rfl rfl rfl rfl rfl (by simp) ?_
  refine z_go 90 rfl ?_
  refine z_putF (zset_at _ _ _) rfl rfl rfl rfl rfl rfl rfl rfl (by simp) ?_
  refine z_go 90 rfl ?_
  refine z_putF (zset_at _ _ _) rfl rfl rfl rfl rfl rfl rfl rfl (by simp) ?_
  refine z_go 90 rfl ?_
  rw [zset_set, zset_set, zset_set, zset_set, zset_set, zset_set, zset_set, zset_set, zset_set]
  refine z_get (hb' _) rfl rfl rfl rfl ?_
  refine z_put (zset_at _ _ _) rfl rfl rfl rfl rfl rfl (by simp) ?_
  rw [zset_set]
  refine z_go 90 rfl ?_
  refine z_get (hb' _) rfl rfl rfl rfl ?_
  refine z_put (zset_at _ _ _) rfl rfl rfl rfl rfl rfl (by simp) ?_
  rw [zset_set]
  refine z_go 90 rfl ?_
  refine z_cV (hb' _) (c_far1 G (hb' _) z hz hA hn) KX7_farFrom IX7_farFrom VX7_farFrom_Block rfl rfl rfl PX7_farFrom rfl rfl rfl rfl ?_
  refine z_put (zset_at _ _ _) rfl rfl rfl rfl rfl rfl (by simp) ?_
  rw [zset_set]
  refine z_go 90 rfl ?_
  refine z_cV (hb' _) (c_side1 G (hb' _) z hz hA hn) KX7_sideOf IX7_sideOf VX7_sideOf_Block rfl rfl rfl PX7_sideOf rfl rfl rfl rfl ?_
  refine z_put (zset_at _ _ _) rfl rfl rfl rfl rfl rfl (by simp) ?_
  rw [zset_set]
  refine z_go 90 rfl ?_
  refine z_get (hb' _) rfl rfl rfl rfl ?_
  refine z_put (zset_at _ _ _) rfl rfl rfl rfl rfl rfl (by simp) ?_
  rw [zset_set]
  refine z_go 90 rfl ?_
  refine z_get (hb' _) rfl rfl rfl rfl ?_
  refine z_put (zset_at _ _ _) rfl rfl rfl rfl rfl rfl (by simp) ?_
  rw [zset_set]
  exact z_vret rfl rfl ⟨rfl, rfl⟩
end ZRP
