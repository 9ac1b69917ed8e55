section ZDE
variable {X : zCx} {h : zHp}
abbrev zIAE : String := "java/lang/IllegalArgumentException"
abbrev zIOE : String := "java/lang/IndexOutOfBoundsException"
def zXT (h1 : zHp) (E : String) : zRs → zHp → Prop := fun r h' => h' = h1 ∧ r = .inr E
theorem c_demand1 (G : zG X) (b : Int32) (hb : b ≠ 0) : ZM X MX10_demand 6 262 [.int b] h (zX h none) := by
  refine zm_of_z G KX10_demand rfl rfl ?_
  refine z_go 90 rfl ?_
  refine z_br rfl rfl (fun c => ?_) (fun c => ?_) <;> (try dsimp only at c)
  · exact z_vret rfl rfl ⟨rfl, rfl⟩
  · exact absurd c hb
theorem c_demand0 (G : zG X) (hlim : zLim X (zadd h 1 6)) : ZM X MX10_demand 6 262 [.int 0] h (zXT (zadd h 1 6) zIAE) := by
  obtain ⟨sa, hs⟩ := zst_str G zsr_242 zsx_242
  refine zm_of_z G KX10_demand rfl rfl ?_
  refine z_go 90 rfl ?_
  refine z_br rfl rfl (fun c => absurd c (by decide)) (fun _ => ?_)
  exact z_throw (E := zIAE) rfl rfl rfl rfl rfl rfl rfl hs zth_A zti_A (by decide +kernel) rfl rfl hlim ⟨rfl, rfl⟩
theorem c_index1 (G : zG X) (i n : Int32) (h1 : 0 ≤ i.toInt) (h2 : i.toInt < n.toInt) : ZM X MX10_demandIndex 6 262 [.int i, .int n] h (zX h none) := by
  have t0 : (0 : Int32).toInt = 0 := rfl
  refine zm_of_z G KX10_demandIndex rfl rfl ?_
  refine z_go 90 rfl ?_
  refine z_br rfl rfl (fun c => ?_) (fun c => ?_) <;> (try dsimp only at c)
  · rw [i_lt] at c
    omega
  refine z_go 90 rfl ?_
  refine z_br rfl rfl (fun d => ?_) (fun d => ?_) <;> (try dsimp only at d)
  · exact z_vret rfl rfl ⟨rfl, rfl⟩
  · rw [i_lt] at d
    omega
theorem c_index0 (G : zG X) (i n : Int32) (h1 : i.toInt < 0 ∨ n.toInt ≤ i.toInt) (hlim : zLim X (zadd h 1 6)) : ZM X MX10_demandIndex 6 262 [.int i, .int n] h (zXT (zadd h 1 6) zIOE) := by
  obtain ⟨sa, hs⟩ := zst_str G zsr_247 zsx_247
  have t0 : (0 : Int32).toInt = 0 := rfl
  refine zm_of_z G KX10_demandIndex rfl rfl ?_
  refine z_go 90 rfl ?_
  refine z_br rfl rfl (fun c => ?_) (fun c => ?_) <;> (try dsimp only at c)
  · exact z_throw (E := zIOE) rfl rfl rfl rfl rfl rfl rfl hs zth_I zti_I (by decide +kernel) rfl rfl hlim ⟨rfl, rfl⟩
  rw [i_lt] at c
  refine z_go 90 rfl ?_
  refine z_br rfl rfl (fun d => ?_) (fun d => ?_) <;> (try dsimp only at d)
  · rw [i_lt] at d
    omega
  · exact z_throw (E := zIOE) rfl rfl rfl rfl rfl rfl rfl hs zth_I zti_I (by decide +kernel) rfl rfl hlim ⟨rfl, rfl⟩
theorem c_isVarSize (G : zG X) (s : Int32) : ZM X MX10_isVariableSize 0 100 [.int s] h (zX h (some (.int (if 0 ≤ s.toInt ∧ s.toInt ≤ 128 then 1 else 0)))) := by
  have e1 : (0 : Int32).toInt = 0 := rfl
  have e2 : (128 : Int32).toInt = 128 := rfl
  refine zm_of_z G KX10_isVariableSize rfl rfl ?_
  refine z_go 90 rfl ?_
  refine z_br rfl rfl (fun c => ?_) (fun c => ?_) <;> (try dsimp only at c)
  · rw [i_lt] at c
    refine z_go 90 rfl ?_
    exact z_zret rfl rfl rfl ⟨rfl, by rw [if_neg (by omega)]⟩
  · rw [i_lt] at c
    refine z_go 90 rfl ?_
    refine z_br rfl rfl (fun d => ?_) (fun d => ?_) <;> (try dsimp only at d)
    · rw [i_lt] at d
      refine z_go 90 rfl ?_
      exact z_zret rfl rfl rfl ⟨rfl, by rw [if_neg (by omega)]⟩
    · rw [i_lt] at d
      refine z_go 90 rfl ?_
      exact z_zret rfl rfl rfl ⟨rfl, by rw [if_pos (by omega)]⟩
theorem c_isKind (G : zG X) (s : Int32) : ZM X MX10_isBlockKind 0 100 [.int s] h (zX h (some (.int (if 0 ≤ s.toInt ∧ s.toInt ≤ 2 then 1 else 0)))) := by
  have e1 : (0 : Int32).toInt = 0 := rfl
  have e2 : (2 : Int32).toInt = 2 := rfl
  refine zm_of_z G KX10_isBlockKind rfl rfl ?_
  refine z_go 90 rfl ?_
  refine z_br rfl rfl (fun c => ?_) (fun c => ?_) <;> (try dsimp only at c)
  · rw [i_lt] at c
    refine z_go 90 rfl ?_
    exact z_zret rfl rfl rfl ⟨rfl, by rw [if_neg (by omega)]⟩
  · rw [i_lt] at c
    refine z_go 90 rfl ?_
    refine z_br rfl rfl (fun d => ?_) (fun d => ?_) <;> (try dsimp only at d)
    · rw [i_lt] at d
      refine z_go 90 rfl ?_
      exact z_zret rfl rfl rfl ⟨rfl, by rw [if_neg (by omega)]⟩
    · rw [i_lt] at d
      refine z_go 90 rfl ?_
      exact z_zret rfl rfl rfl ⟨rfl, by rw [if_pos (by omega)]⟩
theorem c_span (G : zG X) (n : Nat) (hn : n ≤ 10000) : ZM X MX2_spanOf 1 127 [.int (nI n)] h (zX h (some (.int (nI (sSp n))))) := by
  refine zm_of_z G KX2_spanOf rfl rfl ?_
  refine z_go 90 rfl ?_
  refine z_br rfl rfl (fun c => ?_) (fun c => ?_) <;> (try dsimp only at c)
  · rw [show (0 : Int32) = nI 0 from rfl, n_eq (by omega) (by omega)] at c
    refine z_go 90 rfl ?_
    refine z_cN (c_up32 G n (by omega)) KX10_roundUp SX10_roundUp rfl rfl PX10_roundUp rfl rfl rfl rfl ?_
    refine z_go 90 rfl ?_
    rw [show nI ((n + 31) / 32 * 32) + (32 : Int32) = nI ((n + 31) / 32 * 32 + 32) from n_add _ 32]
    exact z_iret rfl rfl ⟨rfl, by unfold sSp; rw [if_neg c]; rfl⟩
  · rw [show (0 : Int32) = nI 0 from rfl, n_eq (by omega) (by omega)] at c
    refine z_go 90 rfl ?_
    exact z_iret rfl rfl ⟨rfl, by unfold sSp; rw [if_pos c]; rfl⟩
theorem c_redzone (G : zG X) (n : Nat) (hn : n ≤ 10000) : ZM X MX0_redzone 0 100 [.int (nI n)] h (zX h (some (.int (nI (sRed n))))) := by
  have e1 : (64 : Int32).toInt = 64 := rfl
  have e2 : (256 : Int32).toInt = 256 := rfl
  have e3 : (1024 : Int32).toInt = 1024 := rfl
  have e0 := i_nI (n := n) (by omega)
  refine zm_of_z G KX0_redzone rfl rfl ?_
  refine z_go 90 rfl ?_
  refine z_br rfl rfl (fun c => ?_) (fun c => ?_) <;> (try dsimp only at c)
  · rw [i_lt, e0] at c
    refine z_go 90 rfl ?_
    refine z_br rfl rfl (fun d => ?_) (fun d => ?_) <;> (try dsimp only at d)
    · rw [i_lt, e0] at d
      refine z_go 90 rfl ?_
      refine z_br rfl rfl (fun e => ?_) (fun e => ?_) <;> (try dsimp only at e)
      · rw [i_lt, e0] at e
        refine z_go 90 rfl ?_
        exact z_iret rfl rfl ⟨rfl, by unfold sRed; rw [if_neg (by omega), if_neg (by omega), if_neg (by omega)]; rfl⟩
      · rw [i_lt, e0] at e
        refine z_go 90 rfl ?_
        exact z_iret rfl rfl ⟨rfl, by unfold sRed; rw [if_neg (by omega), if_neg (by omega), if_pos (by omega)]; rfl⟩
    · rw [i_lt, e0] at d
      refine z_go 90 rfl ?_
      exact z_iret rfl rfl ⟨rfl, by unfold sRed; rw [if_neg (by omega), if_pos (by omega)]; rfl⟩
  · rw [i_lt, e0] at c
    refine z_go 90 rfl ?_
    exact z_iret rfl rfl ⟨rfl, by unfold sRed; rw [if_pos (by omega)]; rfl⟩
theorem c_chunk (G : zG X) (n : Nat) (hn : n ≤ 10000) : ZM X MX0_chunkBytesFor 1 127 [.int (nI n)] h (zX h (some (.int (nI (sCh n))))) := by
  refine zm_of_z G KX0_chunkBytesFor rfl rfl ?_
  refine z_go 90 rfl ?_
  refine z_cS (c_redzone G n hn) KX0_redzone SX0_redzone rfl rfl PX0_redzone rfl rfl rfl rfl ?_
  refine z_go 90 rfl ?_
  refine z_cN (c_up16 G n (by omega)) KX10_roundUp SX10_roundUp rfl rfl PX10_roundUp rfl rfl rfl rfl ?_
  refine z_go 90 rfl ?_
  rw [n_add, show nI (sRed n + (n + 15) / 16 * 16) + (16 : Int32) = nI (sRed n + (n + 15) / 16 * 16 + 16) from n_add _ 16]
  exact z_iret rfl rfl ⟨rfl, rfl⟩
end ZDE
section ZRI
variable {X : zCx} {h : zHp} {a : Nat}
theorem c_initR8 (G : zG X) (hh : h.1 a = some (.inr (8, .int 0 :: .int 0 :: .int 0 :: .int 0 :: .int 0 :: .int 0 :: .int 0 :: []))) (pl nu gv : Int32) (A n : Nat) : ZM X MX7_init 1 127 [.ref a, .int pl, .int nu, .int (nI A), .int (nI n), .int gv] h (zX (zset h a (.inr (8, zRgF pl nu A n gv 0 []))) none) := by
  refine zm_of_z G KX7_init rfl rfl ?_
  refine z_go 90 rfl ?_
  refine z_obj rfl rfl zoiI zoiC rfl rfl rfl ?_
  refine z_go 90 rfl ?_
  refine z_putF hh rfl rfl rfl rfl rfl rfl rfl rfl (by simp) ?_
  refine z_go 90 rfl ?_
  refine z_putF (zset_at _ _ _) rfl rfl rfl rfl rfl rfl rfl rfl (by simp) ?_
  refine z_go 90 rfl ?_
  refine z_putF (zset_at _ _ _) rfl rfl rfl rfl rfl rfl rfl rfl (by simp) ?_
  refine z_go 90 rfl ?_
  refine z_putF (zset_at _ _ _) rfl rfl rfl rfl rfl rfl rfl rfl (by simp) ?_
  refine z_go 90 rfl ?_
  rw [n_add]
  refine z_putF (zset_at _ _ _) rfl rfl rfl rfl rfl rfl rfl rfl (by simp) ?_
  refine z_go 90 rfl ?_
  refine z_putF (zset_at _ _ _) rfl rfl rfl rfl rfl rfl rfl rfl (by simp) ?_
  rw [zset_set, zset_set, zset_set, zset_set, zset_set]
  exact z_vret rfl rfl ⟨rfl, rfl⟩
theorem c_initR10 (G : zG X) {w : Int32} (hh : h.1 a = some (.inr (10, .int 0 :: .int 0 :: .int 0 :: .int 0 :: .int 0 :: .int 0 :: .int 0 :: [.int w]))) (pl nu gv : Int32) (A n : Nat) : ZM X MX7_init 1 127 [.ref a, .int pl, .int nu, .int (nI A), .int (nI n), .int gv] h (zX (zset h a (.inr (10, zRgF pl nu A n gv 0 [.int w]))) none) := by
  refine zm_of_z G KX7_init rfl rfl ?_
  refine z_go 90 rfl ?_
  refine z_obj rfl rfl zoiI zoiC rfl rfl rfl ?_
  refine z_go 90 rfl ?_
  refine z_putF hh rfl rfl rfl rfl rfl rfl rfl rfl (by simp) ?_
  refine z_go 90 rfl ?_
  refine z_putF (zset_at _ _ _) rfl rfl rfl rfl rfl rfl rfl rfl (by simp) ?_
  refine z_go 90 rfl ?_
  refine z_putF (zset_at _ _ _) rfl rfl rfl rfl rfl rfl rfl rfl (by simp) ?_
  refine z_go 90 rfl ?_
  refine z_putF (zset_at _ _ _) rfl rfl rfl rfl rfl rfl rfl rfl (by simp) ?_
  refine z_go 90 rfl ?_
  rw [n_add]
  refine z_putF (zset_at _ _ _) rfl rfl rfl rfl rfl rfl rfl rfl (by simp) ?_
  refine z_go 90 rfl ?_
  refine z_putF (zset_at _ _ _) rfl rfl rfl rfl rfl rfl rfl rfl (by simp) ?_
  rw [zset_set, zset_set, zset_set, zset_set, zset_set]
  exact z_vret rfl rfl ⟨rfl, rfl⟩
theorem c_initR1 (G : zG X) {x1 x2 x3 x4 x5 x6 : Int32} (hh : h.1 a = some (.inr (1, .int 0 :: .int 0 :: .int 0 :: .int 0 :: .int 0 :: .int 0 :: .int 0 :: [.int x1, .int x2, .int x3, .int x4, .int x5, .int x6]))) (pl nu gv : Int32) (A n : Nat) : ZM X MX7_init 1 127 [.ref a, .int pl, .int nu, .int (nI A), .int (nI n), .int gv] h (zX (zset h a (.inr (1, zRgF pl nu A n gv 0 [.int x1, .int x2, .int x3, .int x4, .int x5, .int x6]))) none) := by
  refine zm_of_z G KX7_init rfl rfl ?_
  refine z_go 90 rfl ?_
  refine z_obj rfl rfl zoiI zoiC rfl rfl rfl ?_
  refine z_go 90 rfl ?_
  refine z_putF hh rfl rfl rfl rfl rfl rfl rfl rfl (by simp) ?_
  refine z_go 90 rfl ?_
  refine z_putF (zset_at _ _ _) rfl rfl rfl rfl rfl rfl rfl rfl (by simp) ?_
  refine z_go 90 rfl ?_
  refine z_putF (zset_at _ _ _) rfl rfl rfl rfl rfl rfl rfl rfl (by simp) ?_
  refine z_go 90 rfl ?_
  refine z_putF (zset_at _ _ _) rfl rfl rfl rfl rfl rfl rfl rfl (by simp) ?_
  refine z_go 90 rfl ?_
  rw [n_add]
  refine z_putF (zset_at _ _ _) rfl rfl rfl rfl rfl rfl rfl rfl (by simp) ?_
  refine z_go 90 rfl ?_
  refine z_putF (zset_at _ _ _) rfl rfl rfl rfl rfl rfl rfl rfl (by simp) ?_
  rw [zset_set, zset_set, zset_set, zset_set, zset_set]
  exact z_vret rfl rfl ⟨rfl, rfl⟩
theorem c_initV (G : zG X) (hh : h.1 a = some (.inr (10, [.int 0, .int 0, .int 0, .int 0, .int 0, .int 0, .int 0, .int 0]))) (nu : Int32) (A n : Nat) : ZM X MX9_init 2 154 [.ref a, .int nu, .int (nI A), .int (nI n)] h (zX (zset h a (.inr (10, zRgF 2 nu A n 0 0 [.int 1]))) none) := by
  refine zm_of_z G KX9_init rfl rfl ?_
  refine z_go 90 rfl ?_
  refine z_cI (c_initR10 G hh 2 nu 0 A n) KX7_init IX7_init rfl rfl rfl rfl rfl PX7_init rfl rfl rfl rfl ?_
  refine z_go 90 rfl ?_
  refine z_put (zset_at _ _ _) rfl rfl rfl rfl rfl rfl (by simp) ?_
  rw [zset_set]
  exact z_vret rfl rfl ⟨rfl, rfl⟩
theorem c_initB (G : zG X) (hh : h.1 a = some (.inr (1, [.int 0, .int 0, .int 0, .int 0, .int 0, .int 0, .int 0, .int 0, .int 0, .int 0, .int 0, .int 0, .int 0]))) (nu kd site : Int32) (n c : Nat) (hn : n ≤ 10000) (hc : c ≤ 10000) : ZM X MX0_init 2 154 [.ref a, .int nu, .int kd, .int (nI n), .int site, .int (nI c)] h (zX (zset h a (.inr (1, zRgF 3 nu (c + sRed n) n site 0 [.int kd, .int (nI c), .int (nI (sCh n)), .int 0, .int 0, .int 0]))) none) := by
  refine zm_of_z G KX0_init rfl rfl ?_
  refine z_go 90 rfl ?_
  refine z_cS (c_redzone G n hn) KX0_redzone SX0_redzone rfl rfl PX0_redzone rfl rfl rfl rfl ?_
  refine z_go 90 rfl ?_
  rw [n_add]
  refine z_cI (c_initR1 G hh 3 nu site (c + sRed n) n) KX7_init IX7_init rfl rfl rfl rfl rfl PX7_init rfl rfl rfl rfl ?_
  refine z_go 90 rfl ?_
  refine z_put (zset_at _ _ _) rfl rfl rfl rfl rfl rfl (by simp) ?_
  refine z_go 90 rfl ?_
  refine z_putF (zset_at _ _ _) rfl rfl rfl rfl rfl rfl rfl rfl (by simp) ?_
  refine z_go 90 rfl ?_
  refine z_putF (zset_at _ _ _) rfl rfl rfl rfl rfl rfl rfl rfl (by simp) ?_
  refine z_go 90 rfl ?_
  refine z_cS (c_chunk G n hn) KX0_chunkBytesFor SX0_chunkBytesFor rfl rfl PX0_chunkBytesFor rfl rfl rfl rfl ?_
  refine z_go 90 rfl ?_
  refine z_putF (zset_at _ _ _) rfl rfl rfl rfl rfl rfl rfl rfl (by simp) ?_
  rw [zset_set, zset_set, zset_set, zset_set]
  exact z_vret rfl rfl ⟨rfl, rfl⟩
end ZRI
