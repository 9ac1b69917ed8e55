section ZLF
variable {X : zCx} {F : Nat → Option va_E} {o p q : Nat} {S : zS} {D : Nat → Nat → Nat} {W : Nat → Nat → Int32} {K : Nat → Nat → Nat} {h : zHp} {cc : Nat}
theorem zIn_f {K' : Nat → Nat → Nat} {W' : Nat → Nat → Int32} (fi : zFi S W' K') (cm : ∀ b, sFnd S b → zIn K' b) (k : Nat) : zIn K' k ↔ sFnd S k := ⟨fun ⟨j, h1, h2⟩ => h2 ▸ (fi.1 j h1).2.2, cm k⟩
theorem k_ff (G : zG X) (I : sInv S cc) (R : zSt X F o S D W K h p q) (hl : ∀ k, k < sN S 23 0 → W 100 k = zif (sFnd S k) 1 0) (a w : Int32) (hw : w = 0 ∨ w = 1) (h1 : w = 1 → ∀ k, k < sN S 23 0 → W 101 k = zif (∃ a, a < sN S 23 0 ∧ sLost S a ∧ k ≠ a ∧ sN S 18 k = 0 ∧ sLd S (sN S 15 a) (sN S 16 a) k) 1 0) {fc fd : Nat} {o4 : Option Value} {Q : zRs → zHp → Prop} (hQ : Q (.inl (some (.int (zoI (sLostF S a w))))) h) : Z X MX5_firstFrom (9, 350, fc, fd) h 14 [some (.ref (D 22 0)), some (.int a), some (.int w), none, o4] [.int a, .int 0] Q := by
  have c1 := I.2.2.2.2.2.2.2.2.1
  have c2 := I.2.2.2.2.2.2.2.2.2.1
  have x22 := R.1.1 22 0 ⟨rfl, by decide⟩
  have x15 := zRel_15 R.1
  have A : zAl X h (D 16 0) (D 17 0) (W 16 0) (sN S 23 0) (K 17 0) (zes S D K 16 0) := zRel_al R.1 (r := 16) (i := 0) (Or.inl ⟨rfl, by decide⟩)
  have ra := i_rng a
  have alone : w = 1 → ∀ k, k < sN S 23 0 → sLost S k → (sAlone S k ↔ W 101 k = 0) := fun hw1 k hk hls => by
    rw [h1 hw1 k hk]
    by_cases c : ∃ a, a < sN S 23 0 ∧ sLost S a ∧ k ≠ a ∧ sN S 18 k = 0 ∧ sLd S (sN S 15 a) (sN S 16 a) k
    · rw [zif_pos c]
      obtain ⟨a, a1, a2, a3, a4, a5⟩ := c
      exact ⟨fun z => absurd a5 (z a a1 (fun e => a3 e.symm) a2), fun z => absurd z (by decide)⟩
    · rw [zif_neg c]
      exact ⟨fun _ => rfl, fun _ a a1 a2 a3 a4 => c ⟨a, a1, a3, fun e => a2 e.symm, hls.1, a4⟩⟩
  have n0 : (if (0 : Int32) < a then a else 0) = nI a.toInt.toNat ∨ ¬ a.toInt < 2147483648 := by
    left
    have t0 : (0 : Int32).toInt = 0 := rfl
    by_cases c : (0 : Int32) < a
    · rw [if_pos c]
      rw [i_lt, t0] at c
      obtain ⟨x, rfl, hx⟩ := i_nat (x := a) (by omega)
      rw [n_toNat hx]
    · rw [if_neg c]
      rw [i_lt, t0] at c
      rw [show a.toInt.toNat = 0 by omega]
      rfl
  have n0 := n0.resolve_right (by omega)
  obtain ⟨a0, ea0⟩ : ∃ a0, a0 = a.toInt.toNat := ⟨_, rfl⟩
  rw [← ea0] at n0
  have a09 : a0 < 2147483648 := by omega
  have hLF : sLostF S a w = (zFst (fun i => sLost S (a0 + i) ∧ (w = 0 ∨ sAlone S (a0 + i))) (sN S 23 0 - a0)).map (fun i => a0 + i) := by
    unfold sLostF
    rw [← ea0]
  have loop : ∀ i, i ≤ sN S 23 0 - a0 → ∀ o4 : Option Value, (∀ j, j < i → ¬ (sLost S (a0 + j) ∧ (w = 0 ∨ sAlone S (a0 + j)))) → Z X MX5_firstFrom (9, 350, fc, fd) h 20 [some (.ref (D 22 0)), some (.int a), some (.int w), some (.int (nI (a0 + i))), o4] [.ref (D 22 0), .int (nI (a0 + i))] Q := by
    refine zdown (P := fun i => ∀ o4 : Option Value, (∀ j, j < i → ¬ (sLost S (a0 + j) ∧ (w = 0 ∨ sAlone S (a0 + j)))) → Z X MX5_firstFrom (9, 350, fc, fd) h 20 [some (.ref (D 22 0)), some (.int a), some (.int w), some (.int (nI (a0 + i))), o4] [.ref (D 22 0), .int (nI (a0 + i))] Q) (sN S 23 0 - a0) (fun i hi ih o4 hno => ?_)
    refine z_get x22 rfl rfl rfl rfl ?_
    refine z_get x15 rfl rfl rfl rfl ?_
    refine z_cV A.1 (c_size (z := .null) G A.1) KJx4a65c_size_8abf5 IJx4a65c_size_8abf5 VJx4a65c_size_8abf5 rfl rfl rfl PJx4a65c_size_8abf5 rfl rfl rfl rfl ?_
    refine z_ite (p := sN S 23 0 ≤ a0 + i) (fun c => ?_) (fun c => ?_)
    · have e : sLostF S a w = none := by
        rw [hLF, zFst_none.mpr (fun j hj => hno j (by omega))]
        rfl
      rw [e] at hQ
      have big : nI (sN S 23 0) ≤ nI (a0 + i) := by
        rw [n_le (by omega) (by omega)]
        exact c
      refine z_br rfl rfl (fun _ => ?_) (fun z => absurd big z)
      refine z_go 90 rfl ?_
      exact z_iret rfl rfl hQ
    · refine z_br rfl rfl (fun z => absurd z (by
        show ¬ nI (sN S 23 0) ≤ nI (a0 + i)
        rw [n_le (by omega) (by omega)]
        exact c)) (fun _ => ?_)
      have hk : a0 + i < sN S 23 0 := by omega
      have ih := ih (by omega)
      have l18 := sN_lt I.1 (k := 18) (i := a0 + i) rfl
      have x18 : h.1 (D 18 (a0 + i)) = some (zBc S (a0 + i) (nI (sN S 18 (a0 + i))) (S 22 (a0 + i)) (zif (sFnd S (a0 + i)) 1 0) (W 101 (a0 + i))) := by
        have q18 := R.1.1 18 (a0 + i) hk
        rw [zce18, hl _ hk] at q18
        exact q18
      refine z_go 90 rfl ?_
      refine z_get x22 rfl rfl rfl rfl ?_
      refine z_get x15 rfl rfl rfl rfl ?_
      refine z_go 90 rfl ?_
      refine z_cV A.1 (c_get G (b := D 18 (a0 + i)) (a0 + i) A (i_nI (by omega)) (by omega) (if_pos (by show a0 + i < sN S 23 0; omega))) KJx4a65c_get_915e3 IJx4a65c_get_915e3 VJx4a65c_get_915e3 rfl rfl rfl PJx4a65c_get_915e3 rfl rfl rfl rfl ?_
      refine z_cast x18 rfl rfl (by decide +kernel) ?_
      refine z_go 90 rfl ?_
      refine z_cV x18 (c_isLost G (by omega) (sFnd S (a0 + i)) x18) KX0_isLost IX0_isLost VX0_isLost rfl rfl rfl PX0_isLost rfl rfl rfl rfl ?_
      have cont : ¬ (sLost S (a0 + i) ∧ (w = 0 ∨ sAlone S (a0 + i))) → ∀ j, j < i + 1 → ¬ (sLost S (a0 + j) ∧ (w = 0 ∨ sAlone S (a0 + j))) := fun z j hj => by
        by_cases e : j = i
        · rw [e]; exact z
        · exact hno j (by omega)
      have found : sLost S (a0 + i) → (w = 0 ∨ sAlone S (a0 + i)) → sLostF S a w = some (a0 + i) := fun z1 z2 => by
        rw [hLF, zFst_some.mpr ⟨by omega, ⟨z1, z2⟩, hno⟩]
        rfl
      refine z_ite (p := sN S 18 (a0 + i) = 0 ∧ ¬ sFnd S (a0 + i)) (fun e => ?_) (fun e => ?_)
      · rw [zif_pos e]
        refine z_br rfl rfl (fun c => absurd c (by first | decide | (dsimp only; decide))) (fun _ => ?_)
        refine z_go 90 rfl ?_
        rcases hw with rfl | rfl
        · rw [found e (Or.inl rfl)] at hQ
          refine z_br rfl rfl (fun _ => ?_) (fun c => absurd c (by first | decide | (dsimp only; decide)))
          refine z_go 90 rfl ?_
          exact z_iret rfl rfl hQ
        · refine z_br rfl rfl (fun c => absurd c (by first | decide | (dsimp only; decide))) (fun _ => ?_)
          refine z_go 90 rfl ?_
          refine z_get x18 rfl rfl rfl rfl ?_
          refine z_ite (p := W 101 (a0 + i) = 0) (fun d => ?_) (fun d => ?_)
          · rw [d]
            rw [found e (Or.inr ((alone rfl _ hk e).mpr d))] at hQ
            refine z_br rfl rfl (fun c => absurd c (by first | decide | (dsimp only; decide))) (fun _ => ?_)
            refine z_go 90 rfl ?_
            exact z_iret rfl rfl hQ
          · refine z_br rfl rfl (fun _ => ?_) (fun z => absurd z d)
            refine z_go 90 rfl ?_
            rw [show nI (a0 + i) + (1 : Int32) = nI (a0 + (i + 1)) from n_succ _]
            exact ih _ (cont (fun z => d ((alone rfl _ hk e).mp (z.2.resolve_left (by decide)))))
      · rw [zif_neg e]
        refine z_br rfl rfl (fun _ => ?_) (fun c => absurd c (by first | decide | (dsimp only; decide)))
        refine z_go 90 rfl ?_
        rw [show nI (a0 + i) + (1 : Int32) = nI (a0 + (i + 1)) from n_succ _]
        exact ih _ (cont (fun z => e z.1))
  refine z_cS (c_max G 0 a) KJ9_max_7cf53 SJ9_max_7cf53 rfl rfl PJ9_max_7cf53 rfl rfl rfl rfl ?_
  rw [n0]
  refine z_go 90 rfl ?_
  exact loop 0 (Nat.zero_le _) o4 (fun j hj => by omega)
theorem k_lost (G : zG X) (I : sInv S cc) (hcc : cc < 512) (R : zSt X F o S D W K h p q) (hp : p ≤ 500000 ∧ q ≤ 7000000) (a w : Int32) (hw : w = 0 ∨ w = 1) : ZM X MX10_lost 10 380 [.ref o, .int a, .int w] h (zPub X F o zIAE zIAE (.int (sLostC S a w).1) (sLostC S a w).2 (p + 30) (q + 3000)) := by
  have x22 := R.1.1 22 0 ⟨rfl, by decide⟩
  have ff : ZM X MX5_firstFrom 9 350 [.ref (D 22 0), .int a, .int w] h (fun r h' => r = .inl (some (.int (zoI (sLostF S a w)))) ∧ ∃ D' W' K', zSt X F o S D' W' K' h' p q) := by
    refine zm_of_z G KX5_firstFrom rfl rfl ?_
    refine z_go 90 rfl ?_
    refine z_cVP x22 (k_markF G I R hp) KX5_markFound IX5_markFound VX5_markFound rfl rfl rfl PX5_markFound rfl rfl rfl rfl ?_
    intro g P1
    obtain ⟨D', W', K', hD, R', fi, cm⟩ := P1
    have hl : ∀ k, k < sN S 23 0 → W' 100 k = zif (sFnd S k) 1 0 := fun k hk => by
      rw [fi.2.2 k hk]
      exact zif_c (zIn_f fi cm k)
    have e22 : D' 22 0 = D 22 0 := by rw [hD 22 (by decide)]
    have y22 := R'.1.1 22 0 ⟨rfl, by decide⟩
    rcases hw with rfl | rfl
    · refine z_go 90 rfl ?_
      refine z_br rfl rfl (fun _ => ?_) (fun c => absurd c (by first | decide | (dsimp only; decide)))
      refine z_go 90 rfl ?_
      rw [← e22]
      exact k_ff G I R' hl a 0 (Or.inl rfl) (fun z => absurd z (by decide)) ⟨rfl, D', W', K', R'⟩
    · refine z_go 90 rfl ?_
      refine z_br rfl rfl (fun c => absurd c (by first | decide | (dsimp only; decide))) (fun _ => ?_)
      refine z_go 90 rfl ?_
      rw [← e22]
      refine z_cVP y22 (k_ledL G I R' hl) KX5_markLedToByLost IX5_markLedToByLost VX5_markLedToByLost rfl rfl rfl PX5_markLedToByLost rfl rfl rfl rfl ?_
      intro g2 P2
      obtain ⟨W2, R2, u0, u1⟩ := P2
      refine z_go 90 rfl ?_
      exact k_ff G I R2 (fun k hk => by rw [u0]; exact hl k hk) a 1 (Or.inr rfl) (fun _ => u1) ⟨rfl, D', W2, K', R2⟩
  refine zm_of_z G KX10_lost rfl rfl ?_
  refine z_go 90 rfl ?_
  refine z_get (zSt_0 R) rfl rfl rfl rfl ?_
  refine z_go 90 rfl ?_
  refine z_cVP x22 ff KX5_firstFrom IX5_firstFrom VX5_firstFrom rfl rfl rfl PX5_firstFrom rfl rfl rfl rfl ?_
  intro g P
  obtain ⟨D', W', K', R'⟩ := P
  exact z_iret rfl rfl ⟨⟨D', W', K', zSt_up (zSt_28 (zSt_T R' 0) _)⟩, Or.inl ⟨rfl, rfl⟩⟩
theorem sLost_n (S : zS) (n : Nat) : zSum (fun k => zif (sN S 18 k = 0 ∧ sFnd S k) 1 0) n + sLostN S n = sLive S n := by
  induction n with
  | zero => rfl
  | succ n ih =>
    show zSum _ n + zif (sN S 18 n = 0 ∧ sFnd S n) 1 0 + (sLostN S n + zif (sLost S n) 1 0) = sLive S n + if sN S 18 n = 0 then 1 else 0
    by_cases c : sN S 18 n = 0
    · rw [if_pos c]
      by_cases d : sFnd S n
      · rw [zif_pos ⟨c, d⟩, zif_neg (fun z => z.2 d)]
        omega
      · rw [zif_neg (fun z => d z.2), zif_pos ⟨c, d⟩]
        omega
    · rw [if_neg c, zif_neg (fun z => c z.1), zif_neg (fun z => c z.1)]
      omega
theorem k_told11 (G : zG X) (I : sInv S cc) (R : zSt X F o S D W K h p q) (hp : p ≤ 500000 ∧ q ≤ 7000000) : ZM X MX5_count 9 350 [.ref (D 22 0)] h (fun r h' => r = .inl (some (.int (nI (sLostN S (sN S 23 0))))) ∧ ∃ D' W' K', zSt X F o S D' W' K' h' p q) := by
  have c1 := I.2.2.2.2.2.2.2.2.1
  have c2 := I.2.2.2.2.2.2.2.2.2.1
  have lle := sLive_le S (sN S 23 0)
  have x22 := R.1.1 22 0 ⟨rfl, by decide⟩
  refine zm_of_z G KX5_count rfl rfl ?_
  refine z_go 90 rfl ?_
  refine z_cVP x22 (k_markF G I R hp) KX5_markFound IX5_markFound VX5_markFound rfl rfl rfl PX5_markFound rfl rfl rfl rfl ?_
  intro g P1
  obtain ⟨D', W', K', hD, R', fi, cm⟩ := P1
  have e22 : D' 22 0 = D 22 0 := by rw [hD 22 (by decide)]
  have y22 := R'.1.1 22 0 ⟨rfl, by decide⟩
  rw [e22] at y22
  have A : zAl X g (D' 23 0) (D' 24 0) (W' 23 0) (K' 50 0) (K' 24 0) (zes S D' K' 23 0) := zRel_al R'.1 (r := 23) (i := 0) (Or.inl ⟨rfl, by decide⟩)
  have nl := zFi_live fi
  have cn := zcnt_n (f := K' 51) (N := sN S 23 0) (K' 50 0) (fun j hj => (fi.1 j hj).1) fi.2.1
  have cs : zSum (fun k => zif (∃ j, j < K' 50 0 ∧ K' 51 j = k) 1 0) (sN S 23 0) = zSum (fun k => zif (sN S 18 k = 0 ∧ sFnd S k) 1 0) (sN S 23 0) := zSum_c (fun k hk => by
    by_cases c : ∃ j, j < K' 50 0 ∧ K' 51 j = k
    · rw [zif_pos c]
      obtain ⟨j, j1, j2⟩ := c
      have := fi.1 j j1
      rw [j2] at this
      rw [zif_pos this.2]
    · rw [zif_neg c, zif_neg (fun z => c (cm k z.2))])
  have ln := sLost_n S (sN S 23 0)
  refine z_go 90 rfl ?_
  refine z_get y22 rfl rfl rfl rfl ?_
  refine z_get (zRel_15 R'.1) rfl rfl rfl rfl ?_
  refine z_go 90 rfl ?_
  refine z_get y22 rfl rfl rfl rfl ?_
  refine z_cV A.1 (c_size (z := .null) G A.1) KJx4a65c_size_8abf5 IJx4a65c_size_8abf5 VJx4a65c_size_8abf5 rfl rfl rfl PJx4a65c_size_8abf5 rfl rfl rfl rfl ?_
  refine z_go 90 rfl ?_
  rw [n_sub nl (by omega), show sLive S (sN S 23 0) - K' 50 0 = sLostN S (sN S 23 0) by omega]
  exact z_iret rfl rfl ⟨rfl, D', W', K', R'⟩
theorem k_told (G : zG X) (I : sInv S cc) (hcc : cc < 512) (R : zSt X F o S D W K h p q) (hp : p ≤ 500000 ∧ q ≤ 7000000) (a : Int32) : ZM X MX10_told 10 380 [.ref o, .int a] h (zPub X F o zIAE zIAE (.int (sTold S a).1) (sTold S a).2 (p + 30) (q + 3000)) := by
  obtain ⟨I0, In, Ig, If, Ib, Iq, Ih, Im, c1, c2, c3, c4⟩ := id I
  have lim := zSt_limA R hp
  have R' := zSt_T R 0
  have Mm := zRel_mem R.1 In
  have t0 : (0 : Int32).toInt = 0 := rfl
  have t11 : (11 : Int32).toInt = 11 := rfl
  have x4 := R.1.1 4 0 ⟨rfl, by decide⟩
  have x8 := R.1.1 8 0 ⟨rfl, by decide⟩
  have x22 := R.1.1 22 0 ⟨rfl, by decide⟩
  have x15 := zRel_15 R.1
  have A5 : zAl X h (D 5 0) (D 6 0) (W 5 0) (sN S 7 0) (K 6 0) (zes S D K 5 0) := zRel_al R.1 (r := 5) (i := 0) (Or.inl ⟨rfl, by decide⟩)
  have A16 : zAl X h (D 16 0) (D 17 0) (W 16 0) (sN S 23 0) (K 17 0) (zes S D K 16 0) := zRel_al R.1 (r := 16) (i := 0) (Or.inl ⟨rfl, by decide⟩)
  have A19 : zAl X h (D 19 0) (D 20 0) (W 19 0) (sN S 25 0) (K 20 0) (zes S D K 19 0) := zRel_al R.1 (r := 19) (i := 0) (Or.inl ⟨rfl, by decide⟩)
  have A25 : zAl X h (D 25 0) (D 26 0) (W 25 0) (sN S 27 0) (K 26 0) (zes S D K 25 0) := zRel_al R.1 (r := 25) (i := 0) (Or.inl ⟨rfl, by decide⟩)
  refine zm_of_z G KX10_told rfl rfl ?_
  refine z_go 90 rfl ?_
  refine z_br rfl rfl (fun c => ?_) (fun c => ?_) <;> (try dsimp only at c)
  · rw [i_lt] at c
    rw [show sTold S a = (0, sThrow S 1) from zif_pos (Or.inl (by omega))]
    refine z_go 90 rfl ?_
    refine z_cST (c_demand0 G lim) KX10_demand SX10_demand rfl rfl PX10_demand rfl rfl rfl rfl rfl ?_
    exact zPub_x R
  rw [i_lt] at c
  refine z_go 90 rfl ?_
  refine z_br rfl rfl (fun d => ?_) (fun d => ?_) <;> (try dsimp only at d)
  · rw [i_lt] at d
    rw [show sTold S a = (0, sThrow S 1) from zif_pos (Or.inr (by omega))]
    refine z_go 90 rfl ?_
    refine z_cST (c_demand0 G lim) KX10_demand SX10_demand rfl rfl PX10_demand rfl rfl rfl rfl rfl ?_
    exact zPub_x R
  rw [i_lt] at d
  obtain ⟨k, rfl, hk⟩ := i_nat (x := a) (by omega)
  rw [i_nI hk] at c d
  have hS : sTold S (nI k) = (sToldV S k, if k = 11 then sWk (sThrow S 0) else sThrow S 0) := by
    unfold sTold
    rw [zif_neg (by rw [i_nI hk]; omega), n_toNat hk]
  rw [hS]
  refine z_go 90 rfl ?_
  refine z_cS (c_demand1 G 1 (by decide)) KX10_demand SX10_demand rfl rfl PX10_demand rfl rfl rfl rfl ?_
  refine z_go 90 rfl ?_
  have : k = 0 ∨ k = 1 ∨ k = 2 ∨ k = 3 ∨ k = 4 ∨ k = 5 ∨ k = 6 ∨ k = 7 ∨ k = 8 ∨ k = 9 ∨ k = 10 ∨ k = 11 := by omega
  rcases this with rfl | rfl | rfl | rfl | rfl | rfl | rfl | rfl | rfl | rfl | rfl | rfl
  · refine z_swI 76 0 rfl rfl (by decide) (by decide) rfl rfl ?_
    refine z_go 90 rfl ?_
    refine z_get (zSt_0 R) rfl rfl rfl rfl ?_
    refine z_get Mm.1 rfl rfl rfl rfl ?_
    exact z_iret rfl rfl (by rw [show sToldV S 0 = nI (sN S 1 0) from sN_eq I0 (k := 1) (i := 0) rfl]; exact zPub_k R' rfl)
  · refine z_swI 84 1 rfl rfl (by decide) (by decide) rfl rfl ?_
    refine z_go 90 rfl ?_
    refine z_get (zSt_0 R) rfl rfl rfl rfl ?_
    refine z_get x15 rfl rfl rfl rfl ?_
    exact z_iret rfl rfl (by rw [show sToldV S 1 = nI (sN S 2 0) from sN_eq I0 (k := 2) (i := 0) rfl]; exact zPub_k R' rfl)
  · refine z_swI 92 2 rfl rfl (by decide) (by decide) rfl rfl ?_
    refine z_go 90 rfl ?_
    refine z_get (zSt_0 R) rfl rfl rfl rfl ?_
    refine z_get x4 rfl rfl rfl rfl ?_
    refine z_cV A5.1 (c_size (z := .null) G A5.1) KJx4a65c_size_8abf5 IJx4a65c_size_8abf5 VJx4a65c_size_8abf5 rfl rfl rfl PJx4a65c_size_8abf5 rfl rfl rfl rfl ?_
    exact z_iret rfl rfl (by rw [show sToldV S 2 = nI (sN S 7 0) from sN_eq I0 (k := 7) (i := 0) rfl]; exact zPub_k R' rfl)
  · refine z_swI 103 3 rfl rfl (by decide) (by decide) rfl rfl ?_
    refine z_go 90 rfl ?_
    refine z_get (zSt_0 R) rfl rfl rfl rfl ?_
    refine z_cV x8 (k_count G I R.1) KX2_count IX2_count VX2_count rfl rfl rfl PX2_count rfl rfl rfl rfl ?_
    exact z_iret rfl rfl (by rw [show sToldV S 3 = nI (sN S 14 0) from sN_eq I0 (k := 14) (i := 0) rfl]; exact zPub_k R' rfl)
  · refine z_swI 111 4 rfl rfl (by decide) (by decide) rfl rfl ?_
    refine z_go 90 rfl ?_
    refine z_get (zSt_0 R) rfl rfl rfl rfl ?_
    refine z_get x15 rfl rfl rfl rfl ?_
    refine z_cV A16.1 (c_size (z := .null) G A16.1) KJx4a65c_size_8abf5 IJx4a65c_size_8abf5 VJx4a65c_size_8abf5 rfl rfl rfl PJx4a65c_size_8abf5 rfl rfl rfl rfl ?_
    exact z_iret rfl rfl (by rw [show sToldV S 4 = nI (sN S 23 0) from sN_eq I0 (k := 23) (i := 0) rfl]; exact zPub_k R' rfl)
  · refine z_swI 122 5 rfl rfl (by decide) (by decide) rfl rfl ?_
    refine z_go 90 rfl ?_
    refine z_get (zSt_0 R) rfl rfl rfl rfl ?_
    refine z_get x15 rfl rfl rfl rfl ?_
    exact z_iret rfl rfl (zPub_k R' rfl)
  · refine z_swI 130 6 rfl rfl (by decide) (by decide) rfl rfl ?_
    refine z_go 90 rfl ?_
    refine z_get (zSt_0 R) rfl rfl rfl rfl ?_
    refine z_cV A25.1 (c_size (z := .null) G A25.1) KJx4a65c_size_8abf5 IJx4a65c_size_8abf5 VJx4a65c_size_8abf5 rfl rfl rfl PJx4a65c_size_8abf5 rfl rfl rfl rfl ?_
    exact z_iret rfl rfl (by rw [show sToldV S 6 = nI (sN S 27 0) from sN_eq I0 (k := 27) (i := 0) rfl]; exact zPub_k R' rfl)
  · refine z_swI 138 7 rfl rfl (by decide) (by decide) rfl rfl ?_
    refine z_go 90 rfl ?_
    refine z_get (zSt_0 R) rfl rfl rfl rfl ?_
    refine z_get x15 rfl rfl rfl rfl ?_
    refine z_cV A19.1 (c_size (z := .null) G A19.1) KJx4a65c_size_8abf5 IJx4a65c_size_8abf5 VJx4a65c_size_8abf5 rfl rfl rfl PJx4a65c_size_8abf5 rfl rfl rfl rfl ?_
    exact z_iret rfl rfl (by rw [show sToldV S 7 = nI (sN S 25 0) from sN_eq I0 (k := 25) (i := 0) rfl]; exact zPub_k R' rfl)
  · refine z_swI 149 8 rfl rfl (by decide) (by decide) rfl rfl ?_
    refine z_go 90 rfl ?_
    refine z_get (zSt_0 R) rfl rfl rfl rfl ?_
    refine z_get x15 rfl rfl rfl rfl ?_
    exact z_iret rfl rfl (zPub_k R' rfl)
  · refine z_swI 157 9 rfl rfl (by decide) (by decide) rfl rfl ?_
    refine z_go 90 rfl ?_
    refine z_get (zSt_0 R) rfl rfl rfl rfl ?_
    refine z_get x15 rfl rfl rfl rfl ?_
    exact z_iret rfl rfl (zPub_k R' rfl)
  · refine z_swI 165 10 rfl rfl (by decide) (by decide) rfl rfl ?_
    refine z_go 90 rfl ?_
    refine z_get (zSt_0 R) rfl rfl rfl rfl ?_
    refine z_cV Mm.1 (c_goodAddr G I Mm) KX6_goodAddresses IX6_goodAddresses VX6_goodAddresses rfl rfl rfl PX6_goodAddresses rfl rfl rfl rfl ?_
    exact z_iret rfl rfl (zPub_k R' rfl)
  · refine z_swO 173 rfl (Or.inr (by decide)) rfl ?_
    refine z_go 90 rfl ?_
    refine z_get (zSt_0 R) rfl rfl rfl rfl ?_
    refine z_cVP x22 (k_told11 G I R hp) KX5_count IX5_count VX5_count rfl rfl rfl PX5_count rfl rfl rfl rfl ?_
    intro g P
    obtain ⟨D1, W1, K1, R1⟩ := P
    exact z_iret rfl rfl ⟨⟨D1, W1, K1, zSt_up (zSt_28 (zSt_T R1 0) _)⟩, Or.inl ⟨rfl, rfl⟩⟩
end ZLF
