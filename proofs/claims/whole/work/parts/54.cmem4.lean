section ZM4
variable {X : zCx} {h : zHp} {xm xb xs : Nat} {S : zS} {cc : Nat}
def gM (S : zS) : Nat → Int32 := fun i => S 3 i &&& 255
theorem gM_0 (M : zMS X h xm xb xs S) (a : Nat) (g : Nat → Int32) : zset h xb (zI X (sN S 1 0) (gM (sMw S a 0 g))) = h := by
  rw [sMw_0]
  exact zset_same M.2.1
theorem gM_s (S : zS) (a k : Nat) (g : Nat → Int32) {x : Int32} (e : x = g k &&& 255) : upd (gM (sMw S a k g)) (a + k) x = gM (sMw S a (k + 1) g) := by
  subst e
  funext i
  show (if i = a + k then g k &&& 255 else (if a ≤ i ∧ i < a + k then g (i - a) else S 3 i) &&& 255) = (if a ≤ i ∧ i < a + (k + 1) then g (i - a) else S 3 i) &&& 255
  by_cases c1 : i = a + k
  · rw [if_pos c1, if_pos (show a ≤ i ∧ i < a + (k + 1) by omega), show i - a = k by omega]
  · rw [if_neg c1]
    by_cases c2 : a ≤ i ∧ i < a + k
    · rw [if_pos c2, if_pos (show a ≤ i ∧ i < a + (k + 1) by omega)]
    · rw [if_neg c2, if_neg (show ¬ (a ≤ i ∧ i < a + (k + 1)) by omega)]
theorem c_setBytes (G : zG X) (M : zMS X h xm xb xs S) (p v : Int32) (n : Nat) (hp : n = 0 ∨ ∃ a, p = nI a ∧ a + n ≤ sN S 1 0) : ZM X MX6_setBytes 1 127 [.ref xm, .int p, .int (nI n), .int v] h (zX (zset h xb (zI X (sN S 1 0) (gM (sMw S p.toInt.toNat n (fun _ => v.toInt8.toInt32))))) none) := by
  obtain ⟨m1, m2, m3, m4, m5, m6, m7⟩ := id M
  have hn : n ≤ 8192 := by rcases hp with z | ⟨a, -, z⟩ <;> omega
  have tn := i_nI (n := n) (by omega)
  refine zm_of_z G KX6_setBytes rfl rfl ?_
  refine z_go 90 rfl ?_
  refine z_cV m1 (c_holds G M p (nI n)) KX6_holds IX6_holds VX6_holds rfl rfl rfl PX6_holds rfl rfl rfl rfl ?_
  rw [zif_pos (p := sHolds (sN S 1 0) p (nI n)) (by
    rcases hp with z | ⟨a, rfl, z⟩
    · left; omega
    · have ta := i_nI (n := a) (by omega)
      unfold sHolds
      omega)]
  refine z_br rfl rfl (fun _ => ?_) (fun c => absurd c (by first | decide | (dsimp only; decide)))
  refine z_go 90 rfl ?_
  have H := zdown (P := fun k => Z X MX6_setBytes (1, 127, h.2.1, h.2.2) (zset h xb (zI X (sN S 1 0) (gM (sMw S p.toInt.toNat k (fun _ => v.toInt8.toInt32))))) 16 [some (.ref xm), some (.int p), some (.int (nI n)), some (.int v), some (.int (nI k))] [.int (nI n), .int (nI k)] (zX (zset h xb (zI X (sN S 1 0) (gM (sMw S p.toInt.toNat n (fun _ => v.toInt8.toInt32))))) none)) n (fun k hk ih => ?_) 0 (Nat.zero_le _)
  · rw [gM_0 M] at H
    exact H
  refine z_br rfl rfl (fun c => ?_) (fun c => ?_) <;> (try dsimp only at c)
  · rw [n_le (by omega) (by omega)] at c
    have : k = n := by omega
    subst this
    exact z_vret rfl rfl ⟨rfl, rfl⟩
  rw [n_le (by omega) (by omega)] at c
  rcases hp with z | ⟨a, rfl, z⟩
  · omega
  have ta := i_nI (n := a) (by omega)
  rw [ta, Int.toNat_natCast] at ih ⊢
  refine z_go 90 rfl ?_
  refine z_get (zMem_B M _).1 rfl rfl rfl rfl ?_
  refine z_go 90 rfl ?_
  rw [n_add]
  refine z_iast (a + k) (zset_at _ _ _) rfl (i_nI (by omega)) (by omega) ?_
  refine z_go 90 rfl ?_
  rw [zset_set, show nI k + (1 : Int32) = nI (k + 1) from n_succ k]
  rw [gM_s S a k (fun _ => v.toInt8.toInt32) (b_and v).symm]
  exact ih (by omega)
theorem c_setNumber (G : zG X) (M : zMS X h xm xb xs S) (a n : Nat) (v : Int64) (hn : a + n ≤ sN S 1 0) : ZM X MX6_setNumber 1 127 [.ref xm, .int (nI a), .int (nI n), .long v] h (zX (zset h xb (zI X (sN S 1 0) (gM (sMw S a n (sByt v))))) none) := by
  obtain ⟨m1, m2, m3, m4, m5, m6, m7⟩ := id M
  have tn := i_nI (n := n) (by omega)
  have ta := i_nI (n := a) (by omega)
  refine zm_of_z G KX6_setNumber rfl rfl ?_
  refine z_go 90 rfl ?_
  refine z_cV m1 (c_holds G M (nI a) (nI n)) KX6_holds IX6_holds VX6_holds rfl rfl rfl PX6_holds rfl rfl rfl rfl ?_
  rw [zif_pos (p := sHolds (sN S 1 0) (nI a) (nI n)) (by unfold sHolds; omega)]
  refine z_br rfl rfl (fun _ => ?_) (fun c => absurd c (by first | decide | (dsimp only; decide)))
  refine z_go 90 rfl ?_
  have H := zdown (P := fun k => Z X MX6_setNumber (1, 127, h.2.1, h.2.2) (zset h xb (zI X (sN S 1 0) (gM (sMw S a k (sByt v))))) 16 [some (.ref xm), some (.int (nI a)), some (.int (nI n)), some (.long v), none, some (.int (nI k))] [.int (nI n), .int (nI k)] (zX (zset h xb (zI X (sN S 1 0) (gM (sMw S a n (sByt v))))) none)) n (fun k hk ih => ?_) 0 (Nat.zero_le _)
  · rw [gM_0 M] at H
    exact H
  refine z_br rfl rfl (fun c => ?_) (fun c => ?_) <;> (try dsimp only at c)
  · rw [n_le (by omega) (by omega)] at c
    have : k = n := by omega
    subst this
    exact z_vret rfl rfl ⟨rfl, rfl⟩
  rw [n_le (by omega) (by omega)] at c
  refine z_go 90 rfl ?_
  refine z_get (zMem_B M _).1 rfl rfl rfl rfl ?_
  refine z_go 90 rfl ?_
  rw [n_add, show (8 : Int32) * nI k = nI (8 * k) from n_mul 8 k]
  refine z_iast (a + k) (zset_at _ _ _) rfl (i_nI (by omega)) (by omega) ?_
  refine z_go 90 rfl ?_
  rw [zset_set, show nI k + (1 : Int32) = nI (k + 1) from n_succ k]
  rw [gM_s S a k (sByt v) (b_and _).symm]
  exact ih (by omega)
theorem c_moveBytes (G : zG X) (M : zMS X h xm xb xs S) (p q : Int32) (n : Nat) (hp : n = 0 ∨ ∃ a b, p = nI b ∧ q = nI a ∧ a + n ≤ sN S 1 0 ∧ b + n ≤ sN S 1 0) : ZM X MX6_moveBytes 1 127 [.ref xm, .int p, .int q, .int (nI n)] h (zX (zset h xb (zI X (sN S 1 0) (gM (sMw S p.toInt.toNat n (fun i => S 3 (q.toInt.toNat + i)))))) none) := by
  obtain ⟨m1, m2, m3, m4, m5, m6, m7⟩ := id M
  have hn : n ≤ 8192 := by rcases hp with z | ⟨a, b, -, -, z, -⟩ <;> omega
  have tn := i_nI (n := n) (by omega)
  refine zm_of_z G KX6_moveBytes rfl rfl ?_
  refine z_go 90 rfl ?_
  refine z_br rfl rfl (fun c => ?_) (fun c => ?_) <;> (try dsimp only at c)
  · rw [show (0 : Int32) = nI 0 from rfl, n_le (by omega) (by omega)] at c
    have : n = 0 := by omega
    subst this
    exact z_vret rfl rfl ⟨by rw [gM_0 M], rfl⟩
  rw [show (0 : Int32) = nI 0 from rfl, n_le (by omega) (by omega)] at c
  rcases hp with z | ⟨a, b, rfl, rfl, ha, hb⟩
  · omega
  have ta := i_nI (n := a) (by omega)
  have tb := i_nI (n := b) (by omega)
  rw [ta, tb, Int.toNat_natCast, Int.toNat_natCast]
  refine z_go 90 rfl ?_
  refine z_cV m1 (c_holds G M (nI b) (nI n)) KX6_holds IX6_holds VX6_holds rfl rfl rfl PX6_holds rfl rfl rfl rfl ?_
  rw [zif_pos (p := sHolds (sN S 1 0) (nI b) (nI n)) (by unfold sHolds; omega)]
  refine z_br rfl rfl (fun c => absurd c (by first | decide | (dsimp only; decide))) (fun _ => ?_)
  refine z_go 90 rfl ?_
  refine z_cV m1 (c_holds G M (nI a) (nI n)) KX6_holds IX6_holds VX6_holds rfl rfl rfl PX6_holds rfl rfl rfl rfl ?_
  rw [zif_pos (p := sHolds (sN S 1 0) (nI a) (nI n)) (by unfold sHolds; omega)]
  refine z_br rfl rfl (fun c => absurd c (by first | decide | (dsimp only; decide))) (fun _ => ?_)
  refine z_go 90 rfl ?_
  refine z_get m1 rfl rfl rfl rfl ?_
  refine z_go 90 rfl ?_
  refine z_get m1 rfl rfl rfl rfl ?_
  refine z_go 90 rfl ?_
  refine z_cpI a b n m2 m2 rfl rfl ta tb tn (by omega) (by omega) rfl rfl rfl ?_
  refine z_vret rfl rfl ⟨?_, rfl⟩
  refine congrArg (fun z => zset h xb (zI X (sN S 1 0) z)) (funext fun i => ?_)
  show (if b ≤ i ∧ i < b + n then S 3 (a + (i - b)) &&& 255 else S 3 i &&& 255) = (if b ≤ i ∧ i < b + n then S 3 (a + (i - b)) else S 3 i) &&& 255
  split <;> rfl
/-- lock, unlock -/
theorem sChN_e {S : zS} {p v : Int32} {n a b : Nat} (hab : a ≤ b) (hno : ∀ g, a ≤ g → g < b → ¬ sChC S p n v g) : sChN S p n v b = sChN S p n v a := by
  induction b with
  | zero => have : a = 0 := by omega
            rw [this]
  | succ b ih =>
    by_cases e : a = b + 1
    · rw [e]
    · show sChN S p n v b + zif (sChC S p n v b) 1 0 = _
      rw [zif_neg (hno b (by omega) (by omega)), ih (by omega) (fun g h1 h2 => hno g h1 (by omega)), Nat.add_zero]
theorem sChS_e {S : zS} {p v w : Int32} {n a b : Nat} (hab : a ≤ b) (hno : ∀ g, a ≤ g → g < b → ¬ sChC S p n v g) : sChS S p n v w b = sChS S p n v w a := by
  unfold sChS
  refine congrArg (zV S 4) (funext fun g => ?_)
  by_cases c : g < a ∧ sChC S p n v g
  · rw [zif_pos c, zif_pos ⟨by omega, c.2⟩]
  · rw [zif_neg c, zif_neg]
    rintro ⟨z1, z2⟩
    by_cases d : g < a
    · exact c ⟨d, z2⟩
    · exact hno g (by omega) z1 z2
theorem sChS_0 (S : zS) (p v w : Int32) (n : Nat) : sChS S p n v w 0 = S := by
  unfold sChS
  rw [show (fun g => zif (g < 0 ∧ sChC S p n v g) w (S 4 g)) = S 4 from funext fun g => zif_neg (fun z => by have := z.1; omega)]
  exact zV_same S 4
theorem c_exchange (G : zG X) (M : zMS X h xm xb xs S) (p v w : Int32) (n : Nat) (hp : n = 0 ∨ ∃ a, p = nI a ∧ a + n ≤ sN S 1 0) : ZM X MX6_exchangeWhole 1 127 [.ref xm, .int p, .int (nI n), .int v, .int w] h (zX (zset h xs (zI X (sN S 1 0 / 8) (sChS S p n v w (sN S 1 0 / 8) 4))) (some (.int (nI (sChN S p n v (sN S 1 0 / 8)))))) := by
  obtain ⟨m1, m2, m3, m4, m5, m6, m7⟩ := id M
  have hn : n ≤ 8192 := by rcases hp with z | ⟨a, -, z⟩ <;> omega
  have tn := i_nI (n := n) (by omega)
  refine zm_of_z G KX6_exchangeWhole rfl rfl ?_
  refine z_go 90 rfl ?_
  refine z_cV m1 (c_holds G M p (nI n)) KX6_holds IX6_holds VX6_holds rfl rfl rfl PX6_holds rfl rfl rfl rfl ?_
  rw [zif_pos (p := sHolds (sN S 1 0) p (nI n)) (by
    rcases hp with z | ⟨a, rfl, z⟩
    · left; omega
    · have ta := i_nI (n := a) (by omega)
      unfold sHolds
      omega)]
  refine z_br rfl rfl (fun c => absurd c (by first | decide | (dsimp only; decide))) (fun _ => ?_)
  refine z_go 90 rfl ?_
  refine z_br rfl rfl (fun c => ?_) (fun c => ?_) <;> (try dsimp only at c)
  case _ =>
    rw [show (0 : Int32) = nI 0 from rfl, n_eq (by omega) (by omega)] at c
    rcases hp with z | ⟨a, rfl, z⟩
    · omega
    have ta := i_nI (n := a) (by omega)
    have hlo : ∀ g, g < (a + 7) / 8 → ¬ sChC S (nI a) n v g := fun g hg z => by have := z.1; omega
    have hhi : ∀ g, (a + n) / 8 ≤ g → ¬ sChC S (nI a) n v g := fun g hg z => by have := z.2.1; omega
    refine z_go 90 rfl ?_
    rw [n_add]
    refine z_div rfl (by decide) ?_
    refine z_go 90 rfl ?_
    rw [show nI (a + n) / (8 : Int32) = nI ((a + n) / 8) from n_div (b := 8) (by omega) (by omega) (by omega)]
    refine z_cN (c_up8 G a (by omega)) KX10_roundUp SX10_roundUp rfl rfl PX10_roundUp rfl rfl rfl rfl ?_
    refine z_go 90 rfl ?_
    refine z_div rfl (by decide) ?_
    refine z_go 90 rfl ?_
    rw [show nI ((a + 7) / 8 * 8) / (8 : Int32) = nI ((a + 7) / 8 * 8 / 8) from n_div (b := 8) (by omega) (by omega) (by omega), show (a + 7) / 8 * 8 / 8 = (a + 7) / 8 by omega]
    have H := zdown (P := fun k => (a + 7) / 8 ≤ k → Z X MX6_exchangeWhole (1, 127, h.2.1, h.2.2) (zset h xs (zI X (sN S 1 0 / 8) (sChS S (nI a) n v w k 4))) 41 [some (.ref xm), some (.int (nI a)), some (.int (nI n)), some (.int v), some (.int w), some (.int (nI (sChN S (nI a) n v k))), some (.int (nI ((a + n) / 8))), some (.int (nI k))] [.int (nI ((a + n) / 8)), .int (nI k)] (zX (zset h xs (zI X (sN S 1 0 / 8) (sChS S (nI a) n v w (sN S 1 0 / 8) 4))) (some (.int (nI (sChN S (nI a) n v (sN S 1 0 / 8))))))) (sN S 1 0) (fun k hk ih hak => ?_) ((a + 7) / 8) (by omega) (Nat.le_refl _)
    · have e1 : sChN S (nI a) n v ((a + 7) / 8) = 0 := sChN_e (a := 0) (Nat.zero_le _) (fun g _ hg => hlo g hg)
      have e2 : sChS S (nI a) n v w ((a + 7) / 8) = S := (sChS_e (a := 0) (Nat.zero_le _) (fun g _ hg => hlo g hg)).trans (sChS_0 S _ v w n)
      rw [e1, e2] at H
      have e3 : zset h xs (zI X (sN S 1 0 / 8) (S 4)) = h := zset_same m3
      rw [e3] at H
      exact H
    refine z_br rfl rfl (fun d => ?_) (fun d => ?_) <;> (try dsimp only at d)
    · rw [n_le (by omega) (by omega)] at d
      refine z_go 90 rfl ?_
      have hx : sChN S (nI a) n v (sN S 1 0 / 8) = sChN S (nI a) n v k ∧ sChS S (nI a) n v w (sN S 1 0 / 8) = sChS S (nI a) n v w k := by
        by_cases q : k ≤ sN S 1 0 / 8
        · exact ⟨sChN_e q (fun g h1 _ => hhi g (by omega)), sChS_e q (fun g h1 _ => hhi g (by omega))⟩
        · exact ⟨(sChN_e (by omega) (fun g h1 _ => hhi g (by omega))).symm, (sChS_e (by omega) (fun g h1 _ => hhi g (by omega))).symm⟩
      rw [hx.1, hx.2]
      exact z_iret rfl rfl ⟨rfl, rfl⟩
    rw [n_le (by omega) (by omega)] at d
    refine z_go 90 rfl ?_
    refine z_get (zMem_S M _).1 rfl rfl rfl rfl ?_
    refine z_alenI (zset_at _ _ _) rfl ?_
    refine z_br rfl rfl (fun e => ?_) (fun e => ?_) <;> (try dsimp only at e)
    · rw [n_le (by omega) (by omega)] at e
      omega
    refine z_go 90 rfl ?_
    refine z_get (zMem_S M _).1 rfl rfl rfl rfl ?_
    refine z_go 90 rfl ?_
    refine z_iald k (zset_at _ _ _) rfl (i_nI (by omega)) (by omega) ?_
    have hk4 : sChS S (nI a) n v w k 4 k = S 4 k := zif_neg (fun z => by have := z.1; omega)
    rw [hk4]
    have hN : sChN S (nI a) n v (k + 1) = sChN S (nI a) n v k + zif (sChC S (nI a) n v k) 1 0 := rfl
    have ih := ih (by omega) (by omega)
    refine z_go 90 rfl ?_
    refine z_br rfl rfl (fun q => ?_) (fun q => ?_) <;> (try dsimp only at q)
    · rw [hN, zif_neg (fun z => q z.2.2), sChS_e (a := k) (by omega) (fun g h1 h2 z => by
        have : g = k := by omega
        subst this
        exact q z.2.2)] at ih
      refine z_go 90 rfl ?_
      rw [show nI k + (1 : Int32) = nI (k + 1) from n_succ k]
      exact ih
    · have hc : sChC S (nI a) n v k := ⟨by omega, by omega, q⟩
      rw [hN, zif_pos hc] at ih
      refine z_go 90 rfl ?_
      refine z_get (zMem_S M _).1 rfl rfl rfl rfl ?_
      refine z_go 90 rfl ?_
      refine z_iast k (zset_at _ _ _) rfl (i_nI (by omega)) (by omega) ?_
      refine z_go 90 rfl ?_
      rw [zset_set, show nI k + (1 : Int32) = nI (k + 1) from n_succ k, show nI (sChN S (nI a) n v k) + (1 : Int32) = nI (sChN S (nI a) n v k + 1) from n_succ _]
      refine z_cong ?_ rfl rfl ih
      refine congrArg (fun z => zset h xs (zI X (sN S 1 0 / 8) z)) (funext fun g => ?_)
      show (if g = k then w else zif (g < k ∧ sChC S (nI a) n v g) w (S 4 g)) = zif (g < k + 1 ∧ sChC S (nI a) n v g) w (S 4 g)
      by_cases c1 : g = k
      · subst c1; rw [if_pos rfl, zif_pos ⟨by omega, hc⟩]
      · rw [if_neg c1]
        by_cases c2 : g < k ∧ sChC S (nI a) n v g
        · rw [zif_pos c2, zif_pos ⟨by omega, c2.2⟩]
        · rw [zif_neg c2, zif_neg (fun z => c2 ⟨by have := z.1; omega, z.2⟩)]
  · rw [show (0 : Int32) = nI 0 from rfl, n_eq (by omega) (by omega)] at c
    subst c
    have hno : ∀ g, ¬ sChC S p 0 v g := fun g z => by have h1 := z.1; have h2 := z.2.1; omega
    have e1 : sChN S p 0 v (sN S 1 0 / 8) = 0 := sChN_e (a := 0) (Nat.zero_le _) (fun g _ _ => hno g)
    have e2 : sChS S p 0 v w (sN S 1 0 / 8) = S := (sChS_e (a := 0) (Nat.zero_le _) (fun g _ _ => hno g)).trans (sChS_0 S _ v w 0)
    rw [e1, e2]
    have e3 : zset h xs (zI X (sN S 1 0 / 8) (S 4)) = h := zset_same m3
    rw [e3]
    refine z_go 90 rfl ?_
    exact z_iret rfl rfl ⟨rfl, rfl⟩
end ZM4
