section ZLN
variable {X : zCx} {F : Nat → Option va_E} {o p q : Nat} {S : zS} {D : Nat → Nat → Nat} {W : Nat → Nat → Int32} {K : Nat → Nat → Nat} {h : zHp} {cc : Nat}
theorem b_z {x : Int32} (e : x.toInt8.toInt32 = x) : x &&& 255 = 0 ↔ x = 0 := by
  have e2 := congrArg Int32.toInt e
  rw [Int8.toInt_toInt32, Int32.toInt_toInt8, Int.bmod_def] at e2
  constructor
  · intro z
    have z2 := congrArg Int32.toInt z
    rw [iN_and] at z2
    apply i_ext
    have t0 : (0 : Int32).toInt = 0 := rfl
    omega
  · rintro rfl
    rfl
theorem sFw_01 (S : zS) (w : Int32) : sFw S w 0 1 = zif (sWr S w.toInt ≠ 0) (some 0) none := by
  have := sFw_1 (S := S) (p := w) (k := 0)
  rw [show (w.toInt + ((0 : Nat) : Int)) = w.toInt by omega] at this
  exact this
theorem w_in {w : Int32} {i N : Nat} (hi : i ≤ 100000) (hN : N ≤ 8192) {y : Nat} (hy : w.toInt + i = (y : Int)) (h2 : y < N) : (w + nI i).toInt = (y : Int) := by
  rcases w_wrap (w := w) (i := i) (N := N) hi hN with z | z
  · omega
  · omega
theorem k_one1 (G : zG X) (I : sInv S cc) (R : zSt X F o S D W K h p q) (a : Int32) (k : Nat) (hk : k ≤ 20000) (hw : sWr S (a.toInt + k) = 0) : ZM X MX10_permits 8 320 [.ref o, .int (a + nI k), .int 1, .int 0] h (zX h (some (.int 1))) := k_per1 G I R (a + nI k) 0 1 (by omega) (by rw [sFw_01, sWr_wrap (by omega) I.2.1.2.1, zif_neg (by rw [hw]; omega)])
theorem k_one0 (G : zG X) (I : sInv S cc) (hc : sN S 27 0 < 512) (R : zSt X F o S D W K h p q) (hp : p ≤ 500000 ∧ q ≤ 7000000) (a : Int32) (k : Nat) (hk : k ≤ 20000) (hw : sWr S (a.toInt + k) ≠ 0) : ZM X MX10_permits 8 320 [.ref o, .int (a + nI k), .int 1, .int 0] h (zPo X F o (some (.int 0)) (sRight S a k (k + 1) 1 0).2 (p + 2) (q + 2000)) := by
  have N2 := I.2.1.2.1
  have e0 : a + nI k + nI 0 = a + nI k := by
    apply i_ext
    rw [Int32.toInt_add, show (nI 0).toInt = 0 from rfl, Int.add_zero, Int.bmod_def]
    have := i_rng (a + nI k)
    omega
  have P := k_per0 G I hc R hp (a + nI k) 0 1 0 (by omega) (by rw [sFw_01, sWr_wrap (by omega) N2, zif_pos hw]) (a.toInt + k) (by rw [e0]; exact (sWr_wrap (by omega) N2).symm) (by rw [e0]; exact w_wrap (by omega) N2)
  rw [e0] at P
  rw [sRight_s (k := k) (by rw [sFw_1, zif_pos hw])]
  exact P
theorem sLen_k {S : zS} {a : Int32} {k : Nat} (h : zFst (sLenP S a) (sN S 1 0 + 1) = some k) (hw : sWr S (a.toInt + k) = 0) : k + 1 ≤ sN S 1 0 := by
  obtain ⟨h1, h2, h3⟩ := zFst_some.mp h
  obtain ⟨y, y1, y2, -⟩ := sWr_0 hw
  rcases Nat.eq_zero_or_pos k with z | z
  · omega
  · have h4 := h3 0 z
    unfold sLenP at h4
    obtain ⟨y', y3, y4, -⟩ := sWr_0 (Classical.byContradiction fun z => h4 (Or.inl z))
    omega
theorem k_len (G : zG X) (I : sInv S cc) (hc : sN S 27 0 < 512) (R : zSt X F o S D W K h p q) (hp : p ≤ 500000 ∧ q ≤ 7000000) (a : Int32) {Q : zRs → zHp → Prop} (hQ : ∀ r h', zPo X F o (some (.int (sLen S a).1)) (sLen S a).2 (p + 2) (q + 2000) r h' → ((sLen S a).2 = S → h' = h) → Q r h') : ZM X MX10_length 9 350 [.ref o, .int a] h Q := by
  have N2 := I.2.1.2.1
  have Mm := zRel_mem R.1 I.2.1
  have Im := I.2.2.2.2.2.2.2.1
  have same : ∃ D W K, zSt X F o S D W K h (p + 2) (q + 2000) := ⟨D, W, K, zSt_le R (by omega) (by omega)⟩
  refine zm_of_z G KX10_length rfl rfl ?_
  refine z_go 90 rfl ?_
  refine z_get (zSt_0 R) rfl rfl rfl rfl ?_
  refine z_get Mm.1 rfl rfl rfl rfl ?_
  have H := zdown (P := fun k => (∀ j, j < k → ¬ sLenP S a j) → Z X MX10_length (9, 350, h.2.1, h.2.2) h 10 [some (.ref o), some (.int a), some (.int (nI k))] [.int (nI (sN S 1 0)), .int (nI k)] Q) (sN S 1 0 + 1) (fun k hk ih hno => ?_) 0 (Nat.zero_le _) (fun j hj => by omega)
  · exact H
  refine z_br rfl rfl (fun c => ?_) (fun c => ?_) <;> (try dsimp only at c)
  · rw [n_lt (by omega) (by omega)] at c
    have e : sLen S a = (-1, S) := by
      unfold sLen
      rw [zFst_none.mpr (fun j hj => hno j (by omega))]
    rw [e] at hQ
    refine z_go 90 rfl ?_
    exact z_iret rfl rfl (hQ _ _ ⟨rfl, same⟩ (fun _ => rfl))
  rw [n_lt (by omega) (by omega)] at c
  refine z_go 90 rfl ?_
  refine z_ite (p := sWr S (a.toInt + k) = 0) (fun hw => ?_) (fun hw => ?_)
  · obtain ⟨y, y1, y2, -⟩ := sWr_0 hw
    have ey := w_in (by omega) N2 y1 y2
    refine z_cV (zSt_0 R) (k_one1 G I R a k (by omega) hw) KX10_permits IX10_permits VX10_permits rfl rfl rfl PX10_permits rfl rfl rfl rfl ?_
    refine z_br rfl rfl (fun _ => ?_) (fun c => absurd c (by first | decide | (dsimp only; decide)))
    refine z_go 90 rfl ?_
    refine z_get (zSt_0 R) rfl rfl rfl rfl ?_
    refine z_go 90 rfl ?_
    refine z_cV Mm.1 (c_byteAt G Mm (a + nI k)) KX6_byteAt IX6_byteAt VX6_byteAt rfl rfl rfl PX6_byteAt rfl rfl rfl rfl ?_
    rw [zif_pos (by omega), ey, Int.toNat_natCast]
    refine z_br rfl rfl (fun d => ?_) (fun d => ?_) <;> (try dsimp only at d)
    · have ih := ih (by omega) (fun j hj => by
        by_cases e : j = k
        · subst e
          rintro (z | z)
          · exact z hw
          · rw [y1, Int.toNat_natCast] at z
            rw [z] at d
            exact d rfl
        · exact hno j (by omega))
      refine z_go 90 rfl ?_
      rw [show nI k + (1 : Int32) = nI (k + 1) from n_succ k]
      refine z_get (zSt_0 R) rfl rfl rfl rfl ?_
      refine z_get Mm.1 rfl rfl rfl rfl ?_
      exact ih
    · have e : sLen S a = (nI k, S) := by
        unfold sLen
        rw [zFst_some.mpr ⟨by omega, Or.inr (by rw [y1, Int.toNat_natCast]; exact (b_z (Im y)).mp d), hno⟩]
        exact zif_neg (fun z => z hw)
      rw [e] at hQ
      refine z_go 90 rfl ?_
      exact z_iret rfl rfl (hQ _ _ ⟨rfl, same⟩ (fun _ => rfl))
  · refine z_cVP (zSt_0 R) (k_one0 G I hc R hp a k (by omega) hw) KX10_permits IX10_permits VX10_permits rfl rfl rfl PX10_permits rfl rfl rfl rfl ?_
    intro h1 P1
    refine z_br rfl rfl (fun c => absurd c (by first | decide | (dsimp only; decide))) (fun _ => ?_)
    refine z_go 90 rfl ?_
    have e : sLen S a = (-1, (sRight S a k (k + 1) 1 0).2) := by
      unfold sLen
      rw [zFst_some.mpr ⟨by omega, Or.inl hw, hno⟩]
      exact zif_pos hw
    rw [e] at hQ
    refine z_iret rfl rfl (hQ _ _ ⟨rfl, P1⟩ (fun z => ?_))
    exfalso
    rw [sRight_s (k := k) (by rw [sFw_1, zif_pos hw])] at z
    have z2 : sN (sTells S (nI (sWr S (a.toInt + k))) (a.toInt + k) (a + nI k) 1 0) 27 0 = sN S 27 0 := congrArg (fun s => sN s 27 0) z
    have z3 : sN (sTells S (nI (sWr S (a.toInt + k))) (a.toInt + k) (a + nI k) 1 0) 27 0 = sN S 27 0 + 1 := n_toNat (by omega)
    omega
theorem sLen_0 (S : zS) (a : Int32) : (sLen S a).2 0 = S 0 := by
  unfold sLen
  cases zFst (sLenP S a) (sN S 1 0 + 1) with
  | none => rfl
  | some k =>
    show (zif (sWr S (a.toInt + k) ≠ 0) _ _ : Int32 × zS).2 0 = S 0
    by_cases hw : sWr S (a.toInt + k) ≠ 0
    · rw [zif_pos hw, sRight_s (k := k) (by rw [sFw_1, zif_pos hw])]
      rfl
    · rw [zif_neg hw]
theorem k_length (G : zG X) (I : sInv S cc) (hcc : cc < 512) (R : zSt X F o S D W K h p q) (hp : p ≤ 500000 ∧ q ≤ 7000000) (a : Int32) : ZM X MX10_length 9 350 [.ref o, .int a] h (zPub X F o zIAE zIAE (.int (sLength S a).1) (sLength S a).2 (p + 30) (q + 3000)) := by
  have I' := sInv_T I 0 (by decide)
  have R' := zSt_T R 0
  have c4 := I.2.2.2.2.2.2.2.2.2.2.2
  refine k_len G I' (by show sN S 27 0 < 512; omega) R' hp a (fun r h' P _ => ?_)
  obtain ⟨rfl, P⟩ := P
  exact zPub_t P (by show (sLen (sThrow S 0) a).2 0 0 = 0; rw [sLen_0]; rfl)
end ZLN
