theorem lc_gt (x y : Int64) : 0 < lg_cmp x y ↔ y.toInt < x.toInt := by
  unfold lg_cmp
  by_cases c : x > y
  · rw [if_pos c]
    exact ⟨fun _ => Int64.lt_iff_toInt_lt.mp c, fun _ => by decide⟩
  · rw [if_neg c]
    have c' : ¬ y.toInt < x.toInt := fun z => c (Int64.lt_iff_toInt_lt.mpr z)
    by_cases d : x = y
    · rw [if_pos d]
      exact ⟨fun z => absurd z (by decide), fun z => absurd z c'⟩
    · rw [if_neg d]
      exact ⟨fun z => absurd z (by decide), fun z => absurd z c'⟩
theorem lc_le (x y : Int64) : lg_cmp x y ≤ 0 ↔ x.toInt ≤ y.toInt := by
  have h := lc_gt x y
  rw [i_lt] at h
  rw [i_le]
  have : (0 : Int32).toInt = 0 := rfl
  omega
theorem sFw_1 {S : zS} {p : Int32} {k : Nat} : sFw S p k (k + 1) = zif (sWr S (p.toInt + k) ≠ 0) (some k) none := by
  by_cases c : sWr S (p.toInt + k) ≠ 0
  · rw [zif_pos c]
    unfold sFw
    rw [(zFst_some (P := fun i => sWr S (p.toInt + (k + i : Nat)) ≠ 0) (n := k + 1 - k) (k := 0)).mpr ⟨by omega, c, fun j hj => by omega⟩]
    rfl
  · rw [zif_neg c]
    unfold sFw
    rw [zFst_none.mpr (fun j hj => by
      have : j = 0 := by omega
      subst this
      exact c)]
    rfl
def sLenP (S : zS) (p : Int32) (k : Nat) : Prop := sWr S (p.toInt + k) ≠ 0 ∨ S 3 (p.toInt + k).toNat = 0
noncomputable def sLen (S : zS) (p : Int32) : Int32 × zS := match zFst (sLenP S p) (sN S 1 0 + 1) with
  | some k => zif (sWr S (p.toInt + k) ≠ 0) (-1, (sRight S p k (k + 1) 1 0).2) (nI k, S)
  | none => (-1, S)
section ZLN
variable {X : zCx} {h : zHp} {m : Nat} {S : zS} {cc : Nat}
theorem rc_lengthOf (G : zG X) (I : sInv S cc) (p : Int32) : ZM X MX11_lengthOf 4 210 [.ref m, .int p] (zr X h m S) (zX (zr X h m (sLen S p).2) (some (.int (sLen S p).1))) := by
  have N2 := I.2.1.2.1
  refine zm_of_z G KX11_lengthOf rfl rfl ?_
  refine z_go 90 rfl ?_
  have H := zdown (P := fun k => (∀ j, j < k → ¬ sLenP S p j) → Z X MX11_lengthOf (4, 210, h.2.1, h.2.2) (zr X h m S) 11 [some (.ref m), some (.int p), some (.int (nI k))] [.int 0, .int 1, .int (nI k + 1), .int (nI k), .long p.toInt64, .ref m] (zX (zr X h m (sLen S p).2) (some (.int (sLen S p).1)))) (sN S 1 0 + 1) (fun k hk ih hp => ?_) 0 (Nat.zero_le _) (fun j hj => by omega)
  · exact H
  rw [show nI k + (1 : Int32) = nI (k + 1) from n_succ k]
  refine z_cV zr_o (rc_right G I p k (k + 1) 1 0 (Or.inl rfl) (by omega) (by omega)) KX11_right IX11_right VX11_right rfl rfl rfl PX11_right rfl rfl rfl rfl ?_
  refine z_go 90 rfl ?_
  refine z_ite (p := sWr S (p.toInt + k) ≠ 0) (fun w => ?_) (fun w => ?_)
  · have hf : sFw S p k (k + 1) = some k := by rw [sFw_1, zif_pos w]
    have hr := sRight_s (many := 1) (wr := 0) hf
    rw [hr]
    refine z_br rfl rfl (fun _ => ?_) (fun c => absurd c (by first | decide | (dsimp only; decide)))
    refine z_go 90 rfl ?_
    have hL : sLen S p = (-1, (sRight S p k (k + 1) 1 0).2) := by
      have hz : zFst (sLenP S p) (sN S 1 0 + 1) = some k := zFst_some.mpr ⟨by
        by_cases q : k = 0
        · omega
        · have hnp := hp (k - 1) (by omega)
          obtain ⟨y, h1, h2, -⟩ := sWr_0 (Decidable.not_not.mp (fun z => hnp (Or.inl z)))
          have hnp0 := hp 0 (by omega)
          obtain ⟨y0, h3, h4, -⟩ := sWr_0 (Decidable.not_not.mp (fun z => hnp0 (Or.inl z)))
          omega, Or.inl w, hp⟩
      unfold sLen
      rw [hz]
      dsimp only
      rw [zif_pos w]
    rw [hL, hr]
    exact z_iret rfl rfl ⟨rfl, rfl⟩
  · have hf : sFw S p k (k + 1) = none := by rw [sFw_1, zif_neg w]
    rw [sRight_n (many := 1) (wr := 0) hf]
    obtain ⟨y, h1, h2, -⟩ := sWr_0 (Decidable.not_not.mp w)
    have hp0 : 0 ≤ p.toInt := by
      by_cases q : k = 0
      · subst q; omega
      · have hnp0 := hp 0 (by omega)
        obtain ⟨y0, h3, h4, -⟩ := sWr_0 (Decidable.not_not.mp (fun z => hnp0 (Or.inl z)))
        omega
    obtain ⟨a, rfl, ha⟩ := i_nat hp0
    have h1' := h1
    rw [i_nI ha] at h1'
    refine z_br rfl rfl (fun c => absurd c (by first | decide | (dsimp only; decide))) (fun _ => ?_)
    refine z_go 90 rfl ?_
    refine z_get zr_o rfl rfl rfl rfl ?_
    refine z_go 90 rfl ?_
    rw [n_add]
    refine r_ld3 (a + k) (i_nI (by omega)) (by omega) rfl ?_
    refine z_go 90 rfl ?_
    refine z_br rfl rfl (fun e => ?_) (fun e => ?_) <;> (try dsimp only at e)
    · refine z_go 90 rfl ?_
      rw [show nI k + (1 : Int32) = nI (k + 1) from n_succ k]
      refine ih (by omega) (fun j hj => ?_)
      by_cases q : j = k
      · subst q
        rintro (z | z)
        · exact w z
        · rw [h1, Int.toNat_natCast, show y = a + j by omega] at z
          exact e z
      · exact hp j (by omega)
    · refine z_go 90 rfl ?_
      have hL : sLen S (nI a) = (nI k, S) := by
        have hz : zFst (sLenP S (nI a)) (sN S 1 0 + 1) = some k := zFst_some.mpr ⟨by omega, Or.inr (by rw [h1, Int.toNat_natCast, show y = a + k by omega]; exact e), hp⟩
        unfold sLen
        rw [hz]
        dsimp only
        rw [zif_neg w]
      rw [hL]
      exact z_iret rfl rfl ⟨rfl, rfl⟩
noncomputable def sLength (S : zS) (p : Int32) : Int32 × zS := sLen (sThrow S 0) p
theorem rc_length (G : zG X) (I : sInv S cc) (p : Int32) : ZM X MX11_length 5 240 [.ref m, .int p] (zr X h m S) (zX (zr X h m (sLength S p).2) (some (.int (sLength S p).1))) := by
  refine zm_of_z G KX11_length rfl rfl ?_
  refine z_go 90 rfl ?_
  refine r_p0 rfl rfl rfl ?_
  refine z_go 90 rfl ?_
  refine z_cV zr_o (rc_lengthOf G (sInv_T I 0 (by decide)) p) KX11_lengthOf IX11_lengthOf VX11_lengthOf rfl rfl rfl PX11_lengthOf rfl rfl rfl rfl ?_
  refine z_go 90 rfl ?_
  exact z_iret rfl rfl ⟨rfl, rfl⟩
theorem sLen_c (S : zS) (p : Int32) : (∃ k, k ≤ sN S 1 0 ∧ sLen S p = (nI k, S)) ∨ (sLen S p).1 = -1 := by
  unfold sLen
  cases hz : zFst (sLenP S p) (sN S 1 0 + 1) with
  | none => exact Or.inr rfl
  | some k =>
    have := (zFst_some.mp hz).1
    by_cases c : sWr S (p.toInt + k) ≠ 0
    · right; dsimp only; rw [zif_pos c]
    · left; exact ⟨k, by omega, by dsimp only; rw [zif_neg c]⟩
noncomputable def sText (S : zS) (p q : Int32) : Int32 × zS := if (sLen (sThrow S 0) q).1 < 0 then (-1, (sLen (sThrow S 0) q).2) else
  (if (sCopies (sThrow S 0) p q 0 ((sLen (sThrow S 0) q).1.toInt.toNat + 1)).1 = 0 then -1 else (sLen (sThrow S 0) q).1, (sCopies (sThrow S 0) p q 0 ((sLen (sThrow S 0) q).1.toInt.toNat + 1)).2)
theorem rc_text (G : zG X) (I : sInv S cc) (p q : Int32) : ZM X MX11_text 5 240 [.ref m, .int p, .int q] (zr X h m S) (zX (zr X h m (sText S p q).2) (some (.int (sText S p q).1))) := by
  have N2 := I.2.1.2.1
  refine zm_of_z G KX11_text rfl rfl ?_
  refine z_go 90 rfl ?_
  refine r_p0 rfl rfl rfl ?_
  refine z_go 90 rfl ?_
  refine z_cV zr_o (rc_lengthOf G (sInv_T I 0 (by decide)) q) KX11_lengthOf IX11_lengthOf VX11_lengthOf rfl rfl rfl PX11_lengthOf rfl rfl rfl rfl ?_
  refine z_go 90 rfl ?_
  rcases sLen_c (sThrow S 0) q with ⟨k, hk, e⟩ | e
  · have hk' : k ≤ sN S 1 0 := hk
    have hS : sText S p q = (if (sCopies (sThrow S 0) p q 0 (k + 1)).1 = 0 then -1 else nI k, (sCopies (sThrow S 0) p q 0 (k + 1)).2) := by
      unfold sText
      rw [e]
      dsimp only
      rw [if_neg (by rw [show (0 : Int32) = nI 0 from rfl, n_lt (by omega) (by omega)]; omega), i_nI (by omega), Int.toNat_natCast]
    rw [e, hS]
    refine z_br rfl rfl (fun c => ?_) (fun c => ?_) <;> (try dsimp only at c)
    · rw [show (0 : Int32) = nI 0 from rfl, n_lt (by omega) (by omega)] at c
      omega
    refine z_go 90 rfl ?_
    rw [show nI k + (1 : Int32) = nI (k + 1) from n_succ k]
    refine z_cV zr_o (rc_copies G (sInv_T I 0 (by decide)) p q 0 (k + 1) (by omega)) KX11_copies IX11_copies VX11_copies rfl rfl rfl PX11_copies rfl rfl rfl rfl ?_
    refine z_go 90 rfl ?_
    refine z_br rfl rfl (fun d => ?_) (fun d => ?_) <;> (try dsimp only at d)
    · refine z_go 90 rfl ?_
      exact z_iret rfl rfl ⟨rfl, by rw [if_pos d]⟩
    · refine z_go 90 rfl ?_
      exact z_iret rfl rfl ⟨rfl, by rw [if_neg d]⟩
  · have hS : sText S p q = (-1, (sLen (sThrow S 0) q).2) := by
      unfold sText
      rw [e, if_pos (by decide)]
    rw [e, hS]
    refine z_br rfl rfl (fun _ => ?_) (fun c => absurd c (by first | decide | (dsimp only; decide)))
    refine z_go 90 rfl ?_
    exact z_iret rfl rfl ⟨rfl, rfl⟩
/-- compare -/
def sCmpP (S : zS) (p q : Int32) (k : Nat) : Prop := sWr S (p.toInt + k) ≠ 0 ∨ sWr S (q.toInt + k) ≠ 0 ∨ S 3 (p.toInt + k).toNat &&& 255 ≠ S 3 (q.toInt + k).toNat &&& 255
noncomputable def sCmpB (S : zS) (p q : Int32) (n : Nat) : Int32 × zS := match zFst (sCmpP S p q) n with
  | none => (0, S)
  | some k => zif (sWr S (p.toInt + k) ≠ 0) (2, (sRight S p k (k + 1) 1 0).2) (zif (sWr S (q.toInt + k) ≠ 0) (2, (sRight S q k (k + 1) 1 0).2) (if S 3 (p.toInt + k).toNat &&& 255 < S 3 (q.toInt + k).toNat &&& 255 then -1 else 1, S))
noncomputable def sComp (S : zS) (p q r : Int32) : Int32 × zS := zif (sNoA S r) (0, sThrow S 1) (sCmpB (sThrow S 0) p q r.toInt.toNat)
theorem rc_cmp1 (G : zG X) (I : sInv S cc) (p q : Int32) (n : Nat) (hn : n ≤ 8192) : Z X MX11_compare (4, 210, h.2.1, h.2.2) (zr X h m S) 28 [some (.ref m), some (.int p), some (.int q), some (.int (nI n)), some (.int (nI 0)), none, none] [.int (nI n), .int (nI 0)] (zX (zr X h m (sCmpB S p q n).2) (some (.int (sCmpB S p q n).1))) := by
  have N2 := I.2.1.2.1
  have H := zdown (P := fun k => ∀ o5 o6, (∀ j, j < k → ¬ sCmpP S p q j) → Z X MX11_compare (4, 210, h.2.1, h.2.2) (zr X h m S) 28 [some (.ref m), some (.int p), some (.int q), some (.int (nI n)), some (.int (nI k)), o5, o6] [.int (nI n), .int (nI k)] (zX (zr X h m (sCmpB S p q n).2) (some (.int (sCmpB S p q n).1)))) n (fun k hk ih o5 o6 hp => ?_) 0 (Nat.zero_le _) none none (fun j hj => by omega)
  · exact H
  refine z_br rfl rfl (fun c => ?_) (fun c => ?_) <;> (try dsimp only at c)
  · rw [n_le (by omega) (by omega)] at c
    have : sCmpB S p q n = (0, S) := by
      unfold sCmpB
      rw [zFst_none.mpr (fun j hj => hp j (by omega))]
    rw [this]
    refine z_go 90 rfl ?_
    exact z_iret rfl rfl ⟨rfl, rfl⟩
  rw [n_le (by omega) (by omega)] at c
  refine z_go 90 rfl ?_
  rw [show nI k + (1 : Int32) = nI (k + 1) from n_succ k]
  refine z_cV zr_o (rc_right G I p k (k + 1) 1 0 (Or.inl rfl) (by omega) (by omega)) KX11_right IX11_right VX11_right rfl rfl rfl PX11_right rfl rfl rfl rfl ?_
  refine z_go 90 rfl ?_
  refine z_ite (p := sWr S (p.toInt + k) ≠ 0) (fun w => ?_) (fun w => ?_)
  · have hf : sFw S p k (k + 1) = some k := by rw [sFw_1, zif_pos w]
    have hr := sRight_s (many := 1) (wr := 0) hf
    have hL : sCmpB S p q n = (2, (sRight S p k (k + 1) 1 0).2) := by
      unfold sCmpB
      rw [zFst_some.mpr ⟨show k < n by omega, Or.inl w, hp⟩]
      dsimp only
      rw [zif_pos w]
    rw [hL, hr]
    refine z_br rfl rfl (fun _ => ?_) (fun c => absurd c (by first | decide | (dsimp only; decide)))
    refine z_go 90 rfl ?_
    exact z_iret rfl rfl ⟨rfl, rfl⟩
  have hf : sFw S p k (k + 1) = none := by rw [sFw_1, zif_neg w]
  rw [sRight_n (many := 1) (wr := 0) hf]
  refine z_br rfl rfl (fun c => absurd c (by first | decide | (dsimp only; decide))) (fun _ => ?_)
  refine z_go 90 rfl ?_
  rw [show nI k + (1 : Int32) = nI (k + 1) from n_succ k]
  refine z_cV zr_o (rc_right G I q k (k + 1) 1 0 (Or.inl rfl) (by omega) (by omega)) KX11_right IX11_right VX11_right rfl rfl rfl PX11_right rfl rfl rfl rfl ?_
  refine z_go 90 rfl ?_
  refine z_ite (p := sWr S (q.toInt + k) ≠ 0) (fun u => ?_) (fun u => ?_)
  · have hf : sFw S q k (k + 1) = some k := by rw [sFw_1, zif_pos u]
    have hr := sRight_s (many := 1) (wr := 0) hf
    have hL : sCmpB S p q n = (2, (sRight S q k (k + 1) 1 0).2) := by
      unfold sCmpB
      rw [zFst_some.mpr ⟨show k < n by omega, Or.inr (Or.inl u), hp⟩]
      dsimp only
      rw [zif_neg w, zif_pos u]
    rw [hL, hr]
    refine z_br rfl rfl (fun c => absurd c (by first | decide | (dsimp only; decide))) (fun _ => ?_)
    refine z_go 90 rfl ?_
    exact z_iret rfl rfl ⟨rfl, rfl⟩
  have hf2 : sFw S q k (k + 1) = none := by rw [sFw_1, zif_neg u]
  rw [sRight_n (many := 1) (wr := 0) hf2]
  obtain ⟨y, h1, h2, -⟩ := sWr_0 (Decidable.not_not.mp w)
  obtain ⟨y', h3, h4, -⟩ := sWr_0 (Decidable.not_not.mp u)
  have ea : (p + nI k).toInt = (y : Int) := by have := i_nI (n := k) (by omega); rw [i_add] <;> omega
  have eb : (q + nI k).toInt = (y' : Int) := by have := i_nI (n := k) (by omega); rw [i_add] <;> omega
  refine z_br rfl rfl (fun _ => ?_) (fun c => absurd c (by first | decide | (dsimp only; decide)))
  refine z_go 90 rfl ?_
  refine z_get zr_o rfl rfl rfl rfl ?_
  refine z_go 90 rfl ?_
  refine r_ld3 y ea (by omega) rfl ?_
  refine z_go 90 rfl ?_
  refine z_get zr_o rfl rfl rfl rfl ?_
  refine z_go 90 rfl ?_
  refine r_ld3 y' eb (by omega) rfl ?_
  refine z_go 90 rfl ?_
  refine z_br rfl rfl (fun d => ?_) (fun d => ?_) <;> (try dsimp only at d)
  · refine z_go 90 rfl ?_
    rw [show nI k + (1 : Int32) = nI (k + 1) from n_succ k]
    refine ih (by omega) _ _ (fun j hj => ?_)
    by_cases e : j = k
    · subst e
      rintro (z | z | z)
      · exact w z
      · exact u z
      · rw [h1, h3, Int.toNat_natCast, Int.toNat_natCast] at z
        exact z d
    · exact hp j (by omega)
  · have hL : sCmpB S p q n = (if S 3 y &&& 255 < S 3 y' &&& 255 then -1 else 1, S) := by
      unfold sCmpB
      rw [zFst_some.mpr ⟨show k < n by omega, Or.inr (Or.inr (by rw [h1, h3, Int.toNat_natCast, Int.toNat_natCast]; exact d)), hp⟩]
      dsimp only
      rw [zif_neg w, zif_neg u, h1, h3, Int.toNat_natCast, Int.toNat_natCast]
    rw [hL]
    refine z_go 90 rfl ?_
    refine z_br rfl rfl (fun e => ?_) (fun e => ?_) <;> (try dsimp only at e)
    · refine z_go 90 rfl ?_
      exact z_iret rfl rfl ⟨rfl, by rw [i_le] at e; rw [if_neg (by rw [i_lt]; omega)]⟩
    · refine z_go 90 rfl ?_
      exact z_iret rfl rfl ⟨rfl, by rw [i_le] at e; rw [if_pos (by rw [i_lt]; omega)]⟩
theorem rc_comp (G : zG X) (I : sInv S cc) (p q r : Int32) : ZM X MX11_compare 4 210 [.ref m, .int p, .int q, .int r] (zr X h m S) (zX (zr X h m (sComp S p q r).2) (some (.int (sComp S p q r).1))) := by
  have N2 := I.2.1.2.1
  refine zm_of_z G KX11_compare rfl rfl ?_
  refine z_go 90 rfl ?_
  refine z_cV zr_o (rc_noAmount G I r) KX11_noAmount IX11_noAmount VX11_noAmount rfl rfl rfl PX11_noAmount rfl rfl rfl rfl ?_
  refine z_go 90 rfl ?_
  refine z_ite (p := sNoA S r) (fun nv => ?_) (fun nv => ?_)
  · rw [zif_pos nv]
    refine z_br rfl rfl (fun c => absurd c (by first | decide | (dsimp only; decide))) (fun _ => ?_)
    refine z_go 90 rfl ?_
    refine rr_yes G (by decide) rfl rfl rfl rfl rfl ?_
    refine z_go 90 rfl ?_
    refine z_iret rfl rfl ?_
    unfold sComp
    rw [zif_pos nv]
    exact ⟨rfl, rfl⟩
  · rw [zif_neg nv]
    refine z_br rfl rfl (fun _ => ?_) (fun c => absurd c (by first | decide | (dsimp only; decide)))
    refine z_go 90 rfl ?_
    refine rr_no G rfl rfl rfl rfl rfl ?_
    have hS := zif_neg (a := ((0 : Int32), sThrow S 1)) (b := sCmpB (sThrow S 0) p q r.toInt.toNat) nv
    rw [show sComp S p q r = _ from hS]
    unfold sNoA at nv
    obtain ⟨n, rfl, hn⟩ := i_nat (x := r) (by omega)
    rw [i_nI hn] at nv ⊢
    rw [Int.toNat_natCast]
    refine z_go 90 rfl ?_
    exact rc_cmp1 (h := h) (m := m) G (sInv_T I 0 (by decide)) p q n (by omega)
end ZLN
