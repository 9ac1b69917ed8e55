section ZSO
variable {X : zCx} {h : zHp} {xh xm xo xb U f m : Nat} {g : Nat → Option Nat} {n1 n2 n4 n5 : Value} {H0 A0 sz : Nat} {v1 v2 v3 v5 v6 v7 : Value} {pl nu gv fd x1 x4 x5 x6 : Int32}
def zOw (g : Nat → Option Nat) (f m : Nat) (v : Option Nat) : Nat → Option Nat := fun u => if f ≤ u ∧ u < f + m then v else g u
theorem zOw_0 (g : Nat → Option Nat) (f : Nat) (v : Option Nat) : zOw g f 0 v = g := funext fun u => if_neg (by omega)
theorem zOw_s (g : Nat → Option Nat) (f k : Nat) (v : Option Nat) : va_up (zOw g f k v) (f + k) v = zOw g f (k + 1) v := by
  funext u
  show (if u = f + k then v else if f ≤ u ∧ u < f + k then v else g u) = if f ≤ u ∧ u < f + (k + 1) then v else g u
  by_cases c : u = f + k
  · rw [if_pos c, if_pos (by omega)]
  · rw [if_neg c]
    by_cases d : f ≤ u ∧ u < f + k
    · rw [if_pos d, if_pos (by omega)]
    · rw [if_neg d, if_neg (by omega)]
theorem zck1 : zcast 1 "ShadowWard$Block" = true := by decide +kernel
theorem c_setOw (G : zG X) (hh : h.1 xh = some (.inr (5, [.ref xm, v1, v2, v3, .ref xo, v5, v6, v7]))) (hM : h.1 xm = some (.inr (7, [n1, n2, .int (nI H0), n4, n5]))) (hb : h.1 xb = some (.inr (1, zRgF pl nu A0 sz gv fd [.int x1, .int (nI (H0 + 16 * f)), .int (nI (16 * m)), .int x4, .int x5, .int x6]))) (ho : h.1 xo = some (zBk X U g)) (hU : U ≤ 2000) (hH : H0 ≤ 20000) (hf : f + m ≤ U) (v : Option Nat) (hv : v = none ∨ v = some xb) : ZM X MX4_setOwner 1 130 [.ref xh, .ref xb, va_rf v] h (zX (zset h xo (zBk X U (zOw g f m v))) none) := by
  have hne := zBk_ne ho hh
  have hnb := zBk_ne ho hb
  have fin : ∀ k, k ≤ m → Z X MX4_setOwner (1, 130, h.2.1, h.2.2) (zset h xo (zBk X U (zOw g f k v))) 46 [some (.ref xh), some (.ref xb), some (va_rf v), some (.int (nI f)), some (.int (nI (f + m))), some (.int (nI (f + k)))] [.int (nI (f + m)), .int (nI (f + k))] (zX (zset h xo (zBk X U (zOw g f m v))) none) := by
    refine zdown (P := fun k => Z X MX4_setOwner (1, 130, h.2.1, h.2.2) (zset h xo (zBk X U (zOw g f k v))) 46 [some (.ref xh), some (.ref xb), some (va_rf v), some (.int (nI f)), some (.int (nI (f + m))), some (.int (nI (f + k)))] [.int (nI (f + m)), .int (nI (f + k))] (zX (zset h xo (zBk X U (zOw g f m v))) none)) m (fun k hk ih => ?_)
    refine z_br rfl rfl (fun c => ?_) (fun c => ?_) <;> (try dsimp only at c)
    · rw [n_le (by omega) (by omega)] at c
      have e : k = m := by omega
      subst e
      exact z_vret rfl rfl ⟨rfl, rfl⟩
    rw [n_le (by omega) (by omega)] at c
    have ih := ih (by omega)
    rw [← zOw_s, show f + (k + 1) = f + k + 1 by omega] at ih
    have hh' : ∀ e, (zset h xo e).1 xh = some (.inr (5, [.ref xm, v1, v2, v3, .ref xo, v5, v6, v7])) := fun e => by
      rw [zset_ne _ _ hne]
      exact hh
    rcases hv with rfl | rfl
    · show Z X MX4_setOwner _ _ _ [_, _, some .null, _, _, _] _ _
      refine z_go 90 rfl ?_
      refine z_get (hh' _) rfl rfl rfl rfl ?_
      refine z_go 90 rfl ?_
      refine z_kastN (f + k) (zset_at _ _ _) rfl (i_nI (by omega)) (by omega) ?_
      rw [zset_set]
      refine z_go 90 rfl ?_
      rw [show nI (f + k) + (1 : Int32) = nI (f + k + 1) from n_succ _]
      exact ih
    · show Z X MX4_setOwner _ _ _ [_, _, some (.ref xb), _, _, _] _ _
      refine z_go 90 rfl ?_
      refine z_get (hh' _) rfl rfl rfl rfl ?_
      refine z_go 90 rfl ?_
      refine z_kast (f + k) (zset_at _ _ _) (show (zset h xo _).1 xb = _ by rw [zset_ne _ _ hnb]; exact hb) zck1 rfl (i_nI (by omega)) (by omega) ?_
      rw [zset_set]
      refine z_go 90 rfl ?_
      rw [show nI (f + k) + (1 : Int32) = nI (f + k + 1) from n_succ _]
      exact ih
  have f0 := fin 0 (by omega)
  rw [zOw_0, zset_same ho] at f0
  have emax : (if (0 : Int32) < nI f then nI f else 0) = nI f := by
    by_cases c : (0 : Int32) < nI f
    · rw [if_pos c]
    · rw [if_neg c]
      rw [show (0 : Int32) = nI 0 from rfl, n_lt (by omega) (by omega)] at c
      rw [show f = 0 by omega]
      rfl
  have emin : (if nI (f + m) < nI U then nI (f + m) else nI U) = nI (f + m) := by
    by_cases c : nI (f + m) < nI U
    · rw [if_pos c]
    · rw [if_neg c]
      rw [n_lt (by omega) (by omega)] at c
      rw [show f + m = U by omega]
  rcases hv with rfl | rfl
  · refine zm_of_z G KX4_setOwner rfl rfl ?_
    refine z_go 90 rfl ?_
    refine z_get hb rfl rfl rfl rfl ?_
    refine z_go 90 rfl ?_
    refine z_get hh rfl rfl rfl rfl ?_
    refine z_get hM rfl rfl rfl rfl ?_
    refine z_go 90 rfl ?_
    rw [n_sub (show H0 ≤ H0 + 16 * f by omega) (by omega), show H0 + 16 * f - H0 = 16 * f by omega]
    refine z_div rfl (by decide) ?_
    refine z_go 90 rfl ?_
    rw [show nI (16 * f) / (16 : Int32) = nI (16 * f / 16) from n_div (b := 16) (by omega) (by omega) (by omega), show 16 * f / 16 = f by omega]
    refine z_cS (c_max G 0 (nI f)) KJ9_max_7cf53 SJ9_max_7cf53 rfl rfl PJ9_max_7cf53 rfl rfl rfl rfl ?_
    rw [emax]
    refine z_go 90 rfl ?_
    refine z_get hh rfl rfl rfl rfl ?_
    refine z_alen (k := 5) (by decide) ho rfl ?_
    refine z_go 90 rfl ?_
    refine z_get hb rfl rfl rfl rfl ?_
    refine z_go 90 rfl ?_
    refine z_div rfl (by decide) ?_
    refine z_go 90 rfl ?_
    rw [show nI (16 * m) / (16 : Int32) = nI (16 * m / 16) from n_div (b := 16) (by omega) (by omega) (by omega), show 16 * m / 16 = m by omega, n_add]
    refine z_cS (c_min G (nI U) (nI (f + m))) KJ9_min_7cf53 SJ9_min_7cf53 rfl rfl PJ9_min_7cf53 rfl rfl rfl rfl ?_
    rw [emin]
    refine z_go 90 rfl ?_
    exact f0
  · refine zm_of_z G KX4_setOwner rfl rfl ?_
    refine z_go 90 rfl ?_
    refine z_get hb rfl rfl rfl rfl ?_
    refine z_go 90 rfl ?_
    refine z_get hh rfl rfl rfl rfl ?_
    refine z_get hM rfl rfl rfl rfl ?_
    refine z_go 90 rfl ?_
    rw [n_sub (show H0 ≤ H0 + 16 * f by omega) (by omega), show H0 + 16 * f - H0 = 16 * f by omega]
    refine z_div rfl (by decide) ?_
    refine z_go 90 rfl ?_
    rw [show nI (16 * f) / (16 : Int32) = nI (16 * f / 16) from n_div (b := 16) (by omega) (by omega) (by omega), show 16 * f / 16 = f by omega]
    refine z_cS (c_max G 0 (nI f)) KJ9_max_7cf53 SJ9_max_7cf53 rfl rfl PJ9_max_7cf53 rfl rfl rfl rfl ?_
    rw [emax]
    refine z_go 90 rfl ?_
    refine z_get hh rfl rfl rfl rfl ?_
    refine z_alen (k := 5) (by decide) ho rfl ?_
    refine z_go 90 rfl ?_
    refine z_get hb rfl rfl rfl rfl ?_
    refine z_go 90 rfl ?_
    refine z_div rfl (by decide) ?_
    refine z_go 90 rfl ?_
    rw [show nI (16 * m) / (16 : Int32) = nI (16 * m / 16) from n_div (b := 16) (by omega) (by omega) (by omega), show 16 * m / 16 = m by omega, n_add]
    refine z_cS (c_min G (nI U) (nI (f + m))) KJ9_min_7cf53 SJ9_min_7cf53 rfl rfl PJ9_min_7cf53 rfl rfl rfl rfl ?_
    rw [emin]
    refine z_go 90 rfl ?_
    exact f0
end ZSO
