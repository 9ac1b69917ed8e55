section ZTX
variable {X : zCx} {F : Nat → Option va_E} {o p q : Nat} {S : zS} {D : Nat → Nat → Nat} {W : Nat → Nat → Int32} {K : Nat → Nat → Nat} {h : zHp} {cc : Nat}
theorem sLen_d (S : zS) (a : Int32) : (∃ k, k + 1 ≤ sN S 1 0 ∧ sLen S a = (nI k, S)) ∨ (sLen S a).1 = -1 := by
  unfold sLen
  cases e : zFst (sLenP S a) (sN S 1 0 + 1) with
  | none => exact Or.inr rfl
  | some k =>
    by_cases hw : sWr S (a.toInt + k) ≠ 0
    · right
      show (zif _ _ _ : Int32 × zS).1 = -1
      rw [zif_pos hw]
    · left
      refine ⟨k, sLen_k e (Classical.byContradiction hw), ?_⟩
      show (zif _ _ _ : Int32 × zS) = _
      rw [zif_neg hw]
theorem k_text (G : zG X) (I : sInv S cc) (hcc : cc < 512) (R : zSt X F o S D W K h p q) (hp : p ≤ 500000 ∧ q ≤ 7000000) (a b : Int32) : ZM X MX10_text 10 380 [.ref o, .int a, .int b] h (zPub X F o zIAE zIAE (.int (sText S a b).1) (sText S a b).2 (p + 30) (q + 3000)) := by
  have I' := sInv_T I 0 (by decide)
  have R' := zSt_T R 0
  have N2 : sN (sThrow S 0) 1 0 ≤ 8192 := I.2.1.2.1
  have c4 := I.2.2.2.2.2.2.2.2.2.2.2
  have hc : sN (sThrow S 0) 27 0 < 512 := by show sN S 27 0 < 512; omega
  have m1 : (-1 : Int32).toInt = -1 := rfl
  have m0 : (0 : Int32).toInt = 0 := rfl
  refine zm_of_z G KX10_text rfl rfl ?_
  refine z_go 90 rfl ?_
  refine z_cVP (zSt_0 R) (k_len G I' hc R' hp b (Q := fun r h' => r = .inl (some (.int (sLen (sThrow S 0) b).1)) ∧ ((∃ D W K, zSt X F o (sLen (sThrow S 0) b).2 D W K h' (p + 2) (q + 2000)) ∧ ((sLen (sThrow S 0) b).2 = sThrow S 0 → h' = h))) (fun r h' P e => ⟨P.1, P.2, e⟩)) KX10_length IX10_length VX10_length rfl rfl rfl PX10_length rfl rfl rfl rfl ?_
  intro h1 P1
  obtain ⟨P1, P2⟩ := P1
  rcases sLen_d (sThrow S 0) b with ⟨k, hk, e⟩ | e
  · have hk9 := i_nI (n := k) (by omega)
    have hT : sText S a b = (if (sCopies (sThrow S 0) a b 0 (k + 1)).1 = 0 then -1 else nI k, (sCopies (sThrow S 0) a b 0 (k + 1)).2) := by
      unfold sText
      rw [e]
      dsimp only
      rw [if_neg (by rw [i_lt]; omega), n_toNat (by omega)]
    rw [hT]
    rw [e] at P2 ⊢
    have P3 := P2 rfl
    subst P3
    refine z_go 90 rfl ?_
    refine z_br rfl rfl (fun _ => ?_) (fun c => absurd c (by
      show ¬ nI k = -1
      exact (fun e => by
        have e2 := congrArg Int32.toInt e
        rw [i_nI (by omega)] at e2
        omega)))
    refine z_go 90 rfl ?_
    rw [show nI k + (1 : Int32) = nI (k + 1) from n_succ k]
    refine z_cVP (zSt_0 R) (k_copyB G I' hc R' hp a b 0 (k + 1) hk (Or.inl rfl) (fun r h' P => P)) KX10_copy IX10_copy VX10_copy rfl rfl rfl PX10_copy rfl rfl rfl rfl ?_
    intro h2 P4
    refine z_br rfl rfl (fun d => ?_) (fun d => ?_) <;> (try dsimp only at d)
    · refine z_go 90 rfl ?_
      exact z_iret rfl rfl (by rw [if_pos d]; exact zPub_t P4 (by rw [sCopies_0]; rfl))
    · refine z_go 90 rfl ?_
      exact z_iret rfl rfl (by rw [if_neg d]; exact zPub_t P4 (by rw [sCopies_0]; rfl))
  · have hT : sText S a b = (-1, (sLen (sThrow S 0) b).2) := by
      unfold sText
      rw [if_pos (by rw [e]; decide)]
    rw [hT, e]
    refine z_go 90 rfl ?_
    refine z_br rfl rfl (fun c => absurd c (by first | decide | (dsimp only; decide))) (fun _ => ?_)
    refine z_go 90 rfl ?_
    exact z_iret rfl rfl (zPub_t P1 (by rw [sLen_0]; rfl))
theorem k_compare (G : zG X) (I : sInv S cc) (hcc : cc < 512) (R : zSt X F o S D W K h p q) (hp : p ≤ 500000 ∧ q ≤ 7000000) (a b n : Int32) : ZM X MX10_compare 9 350 [.ref o, .int a, .int b, .int n] h (zPub X F o zIAE zIAE (.int (sComp S a b n).1) (sComp S a b n).2 (p + 30) (q + 3000)) := by
  have I' := sInv_T I 0 (by decide)
  have R' := zSt_T R 0
  have N2 : sN (sThrow S 0) 1 0 ≤ 8192 := I.2.1.2.1
  have N3 : sN (sThrow S 0) 1 0 = sN S 1 0 := rfl
  have c4 := I.2.2.2.2.2.2.2.2.2.2.2
  have hc : sN (sThrow S 0) 27 0 < 512 := by show sN S 27 0 < 512; omega
  have Mm := zRel_mem R'.1 I'.2.1
  have lim := zSt_limA R hp
  have ho := R.2.1.1
  refine zm_of_z G KX10_compare rfl rfl ?_
  refine z_go 90 rfl ?_
  refine z_cV (zSt_0 R) (k_isC G I R n) KX10_isCount IX10_isCount VX10_isCount rfl rfl rfl PX10_isCount rfl rfl rfl rfl ?_
  refine z_ite (p := sNoA S n) (fun nv => ?_) (fun nv => ?_)
  · rw [zif_pos nv, show sComp S a b n = (0, sThrow S 1) from zif_pos nv]
    refine z_cST (c_demand0 G lim) KX10_demand SX10_demand rfl rfl PX10_demand rfl rfl rfl rfl rfl ?_
    exact zPub_x R
  rw [zif_neg nv]
  have nv' := nv
  unfold sNoA at nv'
  obtain ⟨m, rfl, hm⟩ := i_nat (x := n) (by omega)
  rw [i_nI hm] at nv'
  have hS : sComp S a b (nI m) = sCmpB (sThrow S 0) a b m := by
    unfold sComp
    rw [zif_neg nv, n_toNat hm]
  rw [hS]
  refine z_cS (c_demand1 G 1 (by decide)) KX10_demand SX10_demand rfl rfl PX10_demand rfl rfl rfl rfl ?_
  refine z_go 90 rfl ?_
  have H := zdown (P := fun k => (∀ j, j < k → ¬ sCmpP (sThrow S 0) a b j) → ∀ o5, Z X MX10_compare (9, 350, h.2.1, h.2.2) h 14 [some (.ref o), some (.int a), some (.int b), some (.int (nI m)), some (.int (nI k)), o5] [.int (nI m), .int (nI k)] (zPub X F o zIAE zIAE (.int (sCmpB (sThrow S 0) a b m).1) (sCmpB (sThrow S 0) a b m).2 (p + 30) (q + 3000))) m (fun k hk ih hno o5 => ?_) 0 (Nat.zero_le _) (fun j hj => by omega) none
  · exact H
  refine z_br rfl rfl (fun c => ?_) (fun c => ?_) <;> (try dsimp only at c)
  · rw [n_le (by omega) (by omega)] at c
    have e : sCmpB (sThrow S 0) a b m = (0, sThrow S 0) := by
      unfold sCmpB
      rw [zFst_none.mpr (fun j hj => hno j (by omega))]
    rw [e]
    refine z_go 90 rfl ?_
    exact z_iret rfl rfl (zPub_k R' rfl)
  rw [n_le (by omega) (by omega)] at c
  refine z_go 90 rfl ?_
  refine z_ite (p := sWr (sThrow S 0) (a.toInt + k) = 0) (fun hw => ?_) (fun hw => ?_)
  · refine z_cV (zSt_0 R) (k_one1 G I' R' a k (by omega) hw) KX10_permits IX10_permits VX10_permits rfl rfl rfl PX10_permits rfl rfl rfl rfl ?_
    refine z_br rfl rfl (fun c => absurd c (by first | decide | (dsimp only; decide))) (fun _ => ?_)
    refine z_go 90 rfl ?_
    refine z_ite (p := sWr (sThrow S 0) (b.toInt + k) = 0) (fun hw2 => ?_) (fun hw2 => ?_)
    · obtain ⟨y, y1, y2, -⟩ := sWr_0 hw
      obtain ⟨y', y3, y4, -⟩ := sWr_0 hw2
      have ey := w_in (w := a) (i := k) (by omega) N2 y1 y2
      have ey' := w_in (w := b) (i := k) (by omega) N2 y3 y4
      refine z_cV (zSt_0 R) (k_one1 G I' R' b k (by omega) hw2) KX10_permits IX10_permits VX10_permits rfl rfl rfl PX10_permits rfl rfl rfl rfl ?_
      refine z_br rfl rfl (fun _ => ?_) (fun c => absurd c (by first | decide | (dsimp only; decide)))
      refine z_go 90 rfl ?_
      refine z_get (zSt_0 R) rfl rfl rfl rfl ?_
      refine z_go 90 rfl ?_
      refine z_cV Mm.1 (c_byteAt G Mm (a + nI k)) KX6_byteAt IX6_byteAt VX6_byteAt rfl rfl rfl PX6_byteAt rfl rfl rfl rfl ?_
      refine z_go 90 rfl ?_
      refine z_get (zSt_0 R) rfl rfl rfl rfl ?_
      refine z_go 90 rfl ?_
      refine z_cV Mm.1 (c_byteAt G Mm (b + nI k)) KX6_byteAt IX6_byteAt VX6_byteAt rfl rfl rfl PX6_byteAt rfl rfl rfl rfl ?_
      rw [zif_pos (by omega), zif_pos (by omega), ey, ey', Int.toNat_natCast, Int.toNat_natCast]
      refine z_cS (c_cmp G (sThrow S 0 3 y &&& 255) (sThrow S 0 3 y' &&& 255)) KJ6_compare_7cf53 SJ6_compare_7cf53 rfl rfl PJ6_compare_7cf53 rfl rfl rfl rfl ?_
      have hP : sThrow S 0 3 (a.toInt + k).toNat &&& 255 = sThrow S 0 3 y &&& 255 := by rw [y1, Int.toNat_natCast]
      have hP' : sThrow S 0 3 (b.toInt + k).toNat &&& 255 = sThrow S 0 3 y' &&& 255 := by rw [y3, Int.toNat_natCast]
      refine z_ite (p := sThrow S 0 3 y &&& 255 = sThrow S 0 3 y' &&& 255) (fun he => ?_) (fun he => ?_)
      · rw [if_neg (by rw [he, i_lt]; omega), if_pos he]
        have ih := ih (by omega) (fun j hj => by
          by_cases e : j = k
          · subst e
            rintro (z | z | z)
            · exact z hw
            · exact z hw2
            · rw [hP, hP'] at z
              exact z he
          · exact hno j (by omega))
        refine z_go 90 rfl ?_
        refine z_br rfl rfl (fun _ => ?_) (fun c => absurd c (by first | decide | (dsimp only; decide)))
        refine z_go 90 rfl ?_
        rw [show nI k + (1 : Int32) = nI (k + 1) from n_succ k]
        exact ih _
      · have e : sCmpB (sThrow S 0) a b m = (if sThrow S 0 3 y &&& 255 < sThrow S 0 3 y' &&& 255 then -1 else 1, sThrow S 0) := by
          unfold sCmpB
          rw [zFst_some.mpr ⟨by omega, Or.inr (Or.inr (by rw [hP, hP']; exact he)), hno⟩]
          dsimp only
          rw [zif_neg (fun z => z hw), zif_neg (fun z => z hw2), hP, hP']
        rw [e]
        refine z_ite (p := sThrow S 0 3 y &&& 255 < sThrow S 0 3 y' &&& 255) (fun hl => ?_) (fun hl => ?_)
        · rw [if_pos hl, if_pos hl]
          refine z_go 90 rfl ?_
          refine z_br rfl rfl (fun c => absurd c (by first | decide | (dsimp only; decide))) (fun _ => ?_)
          refine z_go 90 rfl ?_
          refine z_br rfl rfl (fun c => absurd c (by first | decide | (dsimp only; decide))) (fun _ => ?_)
          refine z_go 90 rfl ?_
          exact z_iret rfl rfl (zPub_k R' rfl)
        · rw [if_neg hl, if_neg he, if_neg hl]
          refine z_go 90 rfl ?_
          refine z_br rfl rfl (fun c => absurd c (by first | decide | (dsimp only; decide))) (fun _ => ?_)
          refine z_go 90 rfl ?_
          refine z_br rfl rfl (fun _ => ?_) (fun c => absurd c (by first | decide | (dsimp only; decide)))
          refine z_go 90 rfl ?_
          exact z_iret rfl rfl (zPub_k R' rfl)
    · refine z_cVP (zSt_0 R) (k_one0 G I' hc R' hp b k (by omega) hw2) KX10_permits IX10_permits VX10_permits rfl rfl rfl PX10_permits rfl rfl rfl rfl ?_
      intro h1 P1
      have e : sCmpB (sThrow S 0) a b m = (2, (sRight (sThrow S 0) b k (k + 1) 1 0).2) := by
        unfold sCmpB
        rw [zFst_some.mpr ⟨by omega, Or.inr (Or.inl hw2), hno⟩]
        dsimp only
        rw [zif_neg (fun z => z hw), zif_pos hw2]
      rw [e]
      refine z_br rfl rfl (fun c => absurd c (by first | decide | (dsimp only; decide))) (fun _ => ?_)
      refine z_go 90 rfl ?_
      exact z_iret rfl rfl (zPub_t P1 (by rw [sRight_s (k := k) (by rw [sFw_1, zif_pos hw2])]; rfl))
  · refine z_cVP (zSt_0 R) (k_one0 G I' hc R' hp a k (by omega) hw) KX10_permits IX10_permits VX10_permits rfl rfl rfl PX10_permits rfl rfl rfl rfl ?_
    intro h1 P1
    have e : sCmpB (sThrow S 0) a b m = (2, (sRight (sThrow S 0) a k (k + 1) 1 0).2) := by
      unfold sCmpB
      rw [zFst_some.mpr ⟨by omega, Or.inl hw, hno⟩]
      dsimp only
      rw [zif_pos hw]
    rw [e]
    refine z_br rfl rfl (fun _ => ?_) (fun c => absurd c (by first | decide | (dsimp only; decide)))
    refine z_go 90 rfl ?_
    exact z_iret rfl rfl (zPub_t P1 (by rw [sRight_s (k := k) (by rw [sFw_1, zif_pos hw])]; rfl))
end ZTX
