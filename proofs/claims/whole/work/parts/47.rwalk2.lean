section ZW2
variable {X : zCx} {h : zHp} {m : Nat} {S : zS} {cc : Nat}
theorem rc_walk2 (G : zG X) (I : sInv S cc) : ∀ (N : Nat) (F : Nat → Prop) (o2 o3 : Option Value), sCnt F (sN S 23 0) ≤ N → (∀ b, sR0 S b → F b) → (∀ b, F b → sFnd S b) → Z X MX11_walk (3, 181, h.2.1, h.2.2) (zr X h m (zV S 28 (sFa S F))) 47 [some (.ref m), some (.int 1), o2, o3] [.int 1] (zX (zr X h m (sWk S)) none) := by
  obtain ⟨I0, In, Ig, If, Ib, Iq, Ih, Im, c1, c2, c3, c4⟩ := id I
  obtain ⟨r1, r2, r3⟩ := sReg I
  intro N
  induction N using Nat.strongRecOn with
  | _ N IH =>
  intro F o2 o3 hN hF0 hF1
  have e23 : ∀ F', (zV S 28 (sFa S F')) 23 0 = nI (sN S 23 0) := fun F' => sN_eq I0 (k := 23) (i := 0) rfl
  refine z_br rfl rfl (fun c => absurd c (by first | decide | (dsimp only; decide))) (fun _ => ?_)
  refine z_go 90 rfl ?_
  refine r_v23 (e23 F) rfl rfl rfl ?_
  refine z_go 90 rfl ?_
  have H := zdown (P := fun k => ∀ (F' : Nat → Prop) (mr : Nat) (o3 : Option Value), (∀ b, F b → F' b) → (∀ b, F' b → sFnd S b) → (mr = 0 ∧ F' = F ∧ (∀ b, b < k → sN S 18 b = 0 → ¬ F b → ∀ o, o < sN S 23 0 → F o → ¬ sLd S (sN S 15 o) (sN S 16 o) b) ∨ mr = 1 ∧ sCnt F' (sN S 23 0) < sCnt F (sN S 23 0)) → Z X MX11_walk (3, 181, h.2.1, h.2.2) (zr X h m (zV S 28 (sFa S F'))) 59 [some (.ref m), some (.int (nI mr)), some (.int (nI k)), o3] [.int (nI (sN S 23 0)), .int (nI k)] (zX (zr X h m (sWk S)) none)) (sN S 23 0) (fun k hk ih F' mr o3 hm1 hm2 hm3 => ?_) 0 (Nat.zero_le _) F 0 o3 (fun b hb => hb) hF1 (Or.inl ⟨rfl, rfl, fun b hb => by omega⟩)
  · exact H
  refine z_br rfl rfl (fun c => ?_) (fun c => ?_) <;> (try dsimp only at c)
  · rw [n_le (by omega) (by omega)] at c
    refine z_go 90 rfl ?_
    rcases hm3 with ⟨rfl, rfl, hc⟩ | ⟨rfl, hlt⟩
    · refine z_br rfl rfl (fun _ => ?_) (fun c => absurd c (by first | decide | (dsimp only; decide)))
      refine z_go 90 rfl ?_
      refine z_vret rfl rfl ⟨?_, rfl⟩
      unfold sWk
      refine congrArg (fun z => zr X h m (zV S 28 (sFa S z))) (funext fun b => propext ⟨hF1 b, fun hb => sFnd_c hF0 (fun b h1 => hc b (by omega)) hb⟩)
    · exact IH (sCnt F' (sN S 23 0)) (by omega) F' _ _ (Nat.le_refl _) (fun b hb => hm1 b (hF0 b hb)) hm2
  rw [n_le (by omega) (by omega)] at c
  have next : ∀ (F'' : Nat → Prop) (mr' : Nat) (o3 : Option Value), (∀ b, F b → F'' b) → (∀ b, F'' b → sFnd S b) → (mr' = 0 ∧ F'' = F ∧ (∀ b, b < k + 1 → sN S 18 b = 0 → ¬ F b → ∀ o, o < sN S 23 0 → F o → ¬ sLd S (sN S 15 o) (sN S 16 o) b) ∨ mr' = 1 ∧ sCnt F'' (sN S 23 0) < sCnt F (sN S 23 0)) → Z X MX11_walk (3, 181, h.2.1, h.2.2) (zr X h m (zV S 28 (sFa S F''))) 157 [some (.ref m), some (.int (nI mr')), some (.int (nI k)), o3] [] (zX (zr X h m (sWk S)) none) := by
    intro F'' mr' o3 q1 q2 q3
    refine z_go 90 rfl ?_
    rw [show nI k + (1 : Int32) = nI (k + 1) from n_succ k]
    refine r_v23 (e23 F'') rfl rfl rfl ?_
    refine z_go 90 rfl ?_
    exact ih (by omega) F'' mr' o3 q1 q2 q3
  have keep : (sN S 18 k = 0 → ¬ F k → ∀ o, o < sN S 23 0 → F o → ¬ sLd S (sN S 15 o) (sN S 16 o) k) → (mr = 0 ∧ F' = F ∧ (∀ b, b < k + 1 → sN S 18 b = 0 → ¬ F b → ∀ o, o < sN S 23 0 → F o → ¬ sLd S (sN S 15 o) (sN S 16 o) b) ∨ mr = 1 ∧ sCnt F' (sN S 23 0) < sCnt F (sN S 23 0)) := by
    intro hq
    rcases hm3 with ⟨z1, z2, z3⟩ | z
    · refine Or.inl ⟨z1, z2, fun b hb => ?_⟩
      by_cases e : b = k
      · subst e; exact hq
      · exact z3 b (by omega)
    · exact Or.inr z
  have l18 := sN_lt I0 (k := 18) (i := k) rfl
  refine z_go 90 rfl ?_
  refine z_get zr_o rfl rfl rfl rfl ?_
  refine z_go 90 rfl ?_
  refine r_lv18 k (show (zV S 28 (sFa S F')) 18 k = nI (sN S 18 k) from sN_eq I0 (k := 18) (i := k) rfl) (i_nI (by omega)) (by omega) rfl ?_
  refine z_go 90 rfl ?_
  refine z_br rfl rfl (fun d => ?_) (fun d => ?_) <;> (try dsimp only at d)
  · rw [show (0 : Int32) = nI 0 from rfl, n_eq (by omega) (by omega)] at d
    exact next F' mr _ hm1 hm2 (keep (fun z => absurd z d))
  rw [show (0 : Int32) = nI 0 from rfl, n_eq (by omega) (by omega)] at d
  refine z_go 90 rfl ?_
  refine z_get zr_o rfl rfl rfl rfl ?_
  refine z_go 90 rfl ?_
  refine z_ite (p := F' k) (fun hk9 => ?_) (fun hk9 => ?_)
  · refine r_lv28 k (show sFa S F' k = 1 by unfold sFa; rw [if_pos (by omega), zif_pos hk9]) (i_nI (by omega)) (by omega) rfl ?_
    refine z_go 90 rfl ?_
    refine z_br rfl rfl (fun c => absurd c (by decide)) (fun _ => ?_)
    refine z_go 1 rfl ?_
    exact next F' mr _ hm1 hm2 (by
      rcases hm3 with ⟨z1, z2, z3⟩ | z
      · exact keep (fun _ hn => absurd (z2 ▸ hk9) hn)
      · exact Or.inr z)
  have f0 : sFa S F' k = 0 := by unfold sFa; rw [if_pos (by omega), zif_neg hk9]
  refine r_lv28 k f0 (i_nI (by omega)) (by omega) rfl ?_
  refine z_go 90 rfl ?_
  refine z_br rfl rfl (fun _ => ?_) (fun c => absurd c (by first | decide | (dsimp only; decide)))
  refine z_go 90 rfl ?_
  refine r_v23 (e23 F') rfl rfl rfl ?_
  refine z_go 90 rfl ?_
  have H2 := zdown (P := fun o => (∀ j, j < o → F' j → ¬ sLd S (sN S 15 j) (sN S 16 j) k) → Z X MX11_walk (3, 181, h.2.1, h.2.2) (zr X h m (zV S 28 (sFa S F'))) 90 [some (.ref m), some (.int (nI mr)), some (.int (nI k)), some (.int (nI o))] [.int (nI (sN S 23 0)), .int (nI o)] (zX (zr X h m (sWk S)) none)) (sN S 23 0) (fun o ho iho hp => ?_) 0 (Nat.zero_le _) (fun j hj => by omega)
  · exact H2
  have stay : (∀ j, j < sN S 23 0 → F' j → ¬ sLd S (sN S 15 j) (sN S 16 j) k) → ∀ o3, Z X MX11_walk (3, 181, h.2.1, h.2.2) (zr X h m (zV S 28 (sFa S F'))) 148 [some (.ref m), some (.int (nI mr)), some (.int (nI k)), o3] [] (zX (zr X h m (sWk S)) none) := by
    intro hall o3
    refine z_go 90 rfl ?_
    refine z_get zr_o rfl rfl rfl rfl ?_
    refine z_go 90 rfl ?_
    refine r_lv28 k f0 (i_nI (by omega)) (by omega) rfl ?_
    refine z_go 90 rfl ?_
    rw [show nI mr ||| (0 : Int32) = nI mr from Int32.or_zero]
    refine r_v23 (e23 F') rfl rfl rfl ?_
    refine z_go 90 rfl ?_
    rw [show nI k + (1 : Int32) = nI (k + 1) from n_succ k]
    exact ih (by omega) F' mr o3 hm1 hm2 (keep (fun _ _ o h1 h2 => hall o h1 (hm1 o h2)))
  refine z_br rfl rfl (fun e => ?_) (fun e => ?_) <;> (try dsimp only at e)
  · rw [n_le (by omega) (by omega)] at e
    exact stay (fun j hj => hp j (by omega)) _
  rw [n_le (by omega) (by omega)] at e
  refine z_go 90 rfl ?_
  refine z_get zr_o rfl rfl rfl rfl ?_
  refine z_go 90 rfl ?_
  refine r_lv28 k f0 (i_nI (by omega)) (by omega) rfl ?_
  refine z_go 90 rfl ?_
  refine z_br rfl rfl (fun c => absurd c (by first | decide | (dsimp only; decide))) (fun _ => ?_)
  refine z_go 90 rfl ?_
  refine z_get zr_o rfl rfl rfl rfl ?_
  refine z_go 90 rfl ?_
  refine z_get zr_o rfl rfl rfl rfl ?_
  refine z_go 90 rfl ?_
  have no : (¬ (F' o ∧ sLd S (sN S 15 o) (sN S 16 o) k)) → Z X MX11_walk (3, 181, h.2.1, h.2.2) (zr X h m (zV S 28 (sFa S F'))) 141 [some (.ref m), some (.int (nI mr)), some (.int (nI k)), some (.int (nI o))] [.int 0, .int (nI k), .ref (m + 21)] (zX (zr X h m (sWk S)) none) := by
    intro hno
    refine r_st28 k (i_nI (by omega)) (by omega) rfl ?_
    refine z_eqS (S' := zV S 28 (sFa S F')) ?_ ?_
    · rw [zV_V]
      exact congrArg (zV S 28) (sFa_0 S F' (by omega) hk9)
    refine z_go 90 rfl ?_
    rw [show nI o + (1 : Int32) = nI (o + 1) from n_succ o]
    refine r_v23 (e23 F') rfl rfl rfl ?_
    refine z_go 90 rfl ?_
    refine iho (by omega) (fun j hj => ?_)
    by_cases q : j = o
    · subst q; exact fun z1 z2 => hno ⟨z1, z2⟩
    · exact hp j (by omega)
  refine z_ite (p := F' o) (fun hfo => ?_) (fun hfo => ?_)
  · refine r_lv28 o (show sFa S F' o = 1 by unfold sFa; rw [if_pos (by omega), zif_pos hfo]) (i_nI (by omega)) (by omega) rfl ?_
    refine z_go 90 rfl ?_
    refine z_br rfl rfl (fun c => absurd c (by first | decide | (dsimp only; decide))) (fun _ => ?_)
    refine z_go 90 rfl ?_
    refine z_get zr_o rfl rfl rfl rfl ?_
    refine z_go 90 rfl ?_
    refine r_lv15 o (show (zV S 28 (sFa S F')) 15 o = nI (sN S 15 o) from sN_eq I0 (k := 15) (i := o) rfl) (i_nI (by omega)) (by omega) rfl ?_
    refine z_go 90 rfl ?_
    refine z_get zr_o rfl rfl rfl rfl ?_
    refine z_go 90 rfl ?_
    refine r_lv16 o (show (zV S 28 (sFa S F')) 16 o = nI (sN S 16 o) from sN_eq I0 (k := 16) (i := o) rfl) (i_nI (by omega)) (by omega) rfl ?_
    refine z_go 90 rfl ?_
    refine z_cV zr_o (rc_leads (S := zV S 28 (sFa S F')) G (sI0_28 I0 F') (sN S 15 o) (sN S 16 o) k (r3 o (by omega)) (by omega)) KX11_leads IX11_leads VX11_leads rfl rfl rfl PX11_leads rfl rfl rfl rfl ?_
    refine z_go 90 rfl ?_
    refine z_ite (p := sLd S (sN S 15 o) (sN S 16 o) k) (fun q => ?_) (fun q => ?_)
    · rw [zif_pos (p := sLd (zV S 28 (sFa S F')) (sN S 15 o) (sN S 16 o) k) q]
      refine z_br rfl rfl (fun c => absurd c (by first | decide | (dsimp only; decide))) (fun _ => ?_)
      refine z_go 90 rfl ?_
      refine r_st28 k (i_nI (by omega)) (by omega) rfl ?_
      refine z_eqS (S' := zV S 28 (sFa S (fun b => F' b ∨ b = k))) ?_ ?_
      · rw [zV_V]
        exact congrArg (zV S 28) (sFa_1 S F' (by omega))
      have hF2 : ∀ b, (F' b ∨ b = k) → sFnd S b := by
        rintro b (z | rfl)
        · exact hm2 b z
        · exact sFnd_s (by omega) d (by omega) (hm2 o hfo) q
      have hcnt : sCnt (fun b => F' b ∨ b = k) (sN S 23 0) < sCnt F (sN S 23 0) := by
        have h1 := sCnt_le hm1 (sN S 23 0)
        have h2 := sCnt_lt (F := F') (F' := fun b => F' b ∨ b = k) (fun b z => Or.inl z) (n := sN S 23 0) (k := k) (by omega) (Or.inr rfl) hk9
        omega
      have f1 : sFa S (fun b => F' b ∨ b = k) k = 1 := by unfold sFa; rw [if_pos (by omega), zif_pos (Or.inr rfl)]
      have fin : ∀ o3, Z X MX11_walk (3, 181, h.2.1, h.2.2) (zr X h m (zV S 28 (sFa S (fun b => F' b ∨ b = k)))) 148 [some (.ref m), some (.int (nI mr)), some (.int (nI k)), o3] [] (zX (zr X h m (sWk S)) none) := by
        intro o3
        refine z_go 90 rfl ?_
        refine z_get zr_o rfl rfl rfl rfl ?_
        refine z_go 90 rfl ?_
        refine r_lv28 k f1 (i_nI (by omega)) (by omega) rfl ?_
        refine z_go 90 rfl ?_
        rw [show nI mr ||| (1 : Int32) = nI 1 by rcases hm3 with ⟨rfl, -⟩ | ⟨rfl, -⟩ <;> rfl]
        refine r_v23 (e23 _) rfl rfl rfl ?_
        refine z_go 90 rfl ?_
        rw [show nI k + (1 : Int32) = nI (k + 1) from n_succ k]
        exact ih (by omega) _ 1 o3 (fun b z => Or.inl (hm1 b z)) hF2 (Or.inr ⟨rfl, hcnt⟩)
      refine z_go 90 rfl ?_
      rw [show nI o + (1 : Int32) = nI (o + 1) from n_succ o]
      refine r_v23 (e23 _) rfl rfl rfl ?_
      refine z_go 90 rfl ?_
      refine z_br rfl rfl (fun u => ?_) (fun u => ?_) <;> (try dsimp only at u)
      · exact fin _
      refine z_go 90 rfl ?_
      refine z_get zr_o rfl rfl rfl rfl ?_
      refine z_go 90 rfl ?_
      refine r_lv28 k f1 (i_nI (by omega)) (by omega) rfl ?_
      refine z_go 90 rfl ?_
      refine z_br rfl rfl (fun _ => ?_) (fun c => absurd c (by decide))
      exact fin _
    · rw [zif_neg (p := sLd (zV S 28 (sFa S F')) (sN S 15 o) (sN S 16 o) k) q]
      refine z_br rfl rfl (fun _ => ?_) (fun c => absurd c (by first | decide | (dsimp only; decide)))
      refine z_go 90 rfl ?_
      exact no (fun z => q z.2)
  · refine r_lv28 o (show sFa S F' o = 0 by unfold sFa; rw [if_pos (by omega), zif_neg hfo]) (i_nI (by omega)) (by omega) rfl ?_
    refine z_go 90 rfl ?_
    refine z_br rfl rfl (fun _ => ?_) (fun c => absurd c (by first | decide | (dsimp only; decide)))
    refine z_go 90 rfl ?_
    exact no (fun z => hfo z.1)
theorem rc_walk (G : zG X) (I : sInv S cc) : ZM X MX11_walk 3 181 [.ref m] (zr X h m S) (zX (zr X h m (sWk S)) none) := by
  obtain ⟨I0, In, Ig, If, Ib, Iq, Ih, Im, c1, c2, c3, c4⟩ := id I
  have e23 : S 23 0 = nI (sN S 23 0) := sN_eq I0 (k := 23) (i := 0) rfl
  refine zm_of_z G KX11_walk rfl rfl ?_
  refine z_go 90 rfl ?_
  refine z_eqS (S' := zV S 28 (fun b => if b < 0 then zif (sR0 S b) 1 0 else S 28 b)) ?_ ?_
  · rw [show (fun b => if b < 0 then zif (sR0 S b) 1 0 else S 28 b) = S 28 from funext fun b => if_neg (by omega)]
    exact (zV_same S 28).symm
  refine r_v23 (show S 23 0 = _ from e23) rfl rfl rfl ?_
  refine z_go 90 rfl ?_
  have hI : ∀ k, sInv (zV S 28 (fun b => if b < k then zif (sR0 S b) 1 0 else S 28 b)) cc := fun k => ⟨sI0_V I0 fun _ i => by
    split
    · by_cases q : sR0 S i
      · rw [zif_pos q]; decide
      · rw [zif_neg q]; decide
    · exact I0 28 i rfl, I.2⟩
  have H := zdown (P := fun k => Z X MX11_walk (3, 181, h.2.1, h.2.2) (zr X h m (zV S 28 (fun b => if b < k then zif (sR0 S b) 1 0 else S 28 b))) 7 [some (.ref m), some (.int (nI k)), none, none] [.int (nI (sN S 23 0)), .int (nI k)] (zX (zr X h m (sWk S)) none)) (sN S 23 0) (fun k hk ih => ?_) 0 (Nat.zero_le _)
  · exact H
  refine z_br rfl rfl (fun c => ?_) (fun c => ?_) <;> (try dsimp only at c)
  · rw [n_le (by omega) (by omega)] at c
    have : k = sN S 23 0 := by omega
    subst this
    refine z_go 90 rfl ?_
    exact rc_walk2 G I (sCnt (sR0 S) (sN S 23 0)) (sR0 S) none none (Nat.le_refl _) (fun b z => z) (fun b z => sFnd_0 z)
  rw [n_le (by omega) (by omega)] at c
  have st : ∀ v : Int32, v = zif (sR0 S k) 1 0 → Z X MX11_walk (3, 181, h.2.1, h.2.2) (zr X h m (zV S 28 (fun b => if b < k then zif (sR0 S b) 1 0 else S 28 b))) 37 [some (.ref m), some (.int (nI k)), none, none] [.int v, .int (nI k), .ref (m + 21)] (zX (zr X h m (sWk S)) none) := by
    intro v hv
    refine r_st28 k (i_nI (by omega)) (by omega) rfl ?_
    refine z_go 90 rfl ?_
    refine r_v23 (show S 23 0 = _ from e23) rfl rfl rfl ?_
    refine z_go 90 rfl ?_
    rw [show nI k + (1 : Int32) = nI (k + 1) from n_succ k]
    refine z_eqS ?_ (ih (by omega))
    rw [zV_V]
    have hb : vp_nar .boolean v = v := by
      rw [hv]
      by_cases q : sR0 S k
      · rw [zif_pos q]; rfl
      · rw [zif_neg q]; rfl
    rw [hb]
    refine congrArg (zV S 28) (funext fun b => ?_)
    show (if b = k then v else if b < k then zif (sR0 S b) 1 0 else S 28 b) = if b < k + 1 then zif (sR0 S b) 1 0 else S 28 b
    by_cases c1 : b = k
    · rw [if_pos c1, if_pos (show b < k + 1 by omega), hv, c1]
    · rw [if_neg c1]
      by_cases c2 : b < k
      · rw [if_pos c2, if_pos (show b < k + 1 by omega)]
      · rw [if_neg c2, if_neg (show ¬ b < k + 1 by omega)]
  have l18 := sN_lt I0 (k := 18) (i := k) rfl
  refine z_go 90 rfl ?_
  refine z_get zr_o rfl rfl rfl rfl ?_
  refine z_go 90 rfl ?_
  refine z_get zr_o rfl rfl rfl rfl ?_
  refine z_go 90 rfl ?_
  refine r_lv18 k (show S 18 k = nI (sN S 18 k) from sN_eq I0 (k := 18) (i := k) rfl) (i_nI (by omega)) (by omega) rfl ?_
  refine z_go 90 rfl ?_
  refine z_br rfl rfl (fun d => ?_) (fun d => ?_) <;> (try dsimp only at d)
  · rw [show (0 : Int32) = nI 0 from rfl, n_eq (by omega) (by omega)] at d
    refine z_go 90 rfl ?_
    exact st 0 (by rw [zif_neg (fun z => d z.2.1)])
  rw [show (0 : Int32) = nI 0 from rfl, n_eq (by omega) (by omega)] at d
  refine z_go 90 rfl ?_
  refine z_cV zr_o (rc_rooted (S := zV S 28 (fun b => if b < k then zif (sR0 S b) 1 0 else S 28 b)) G (hI k) k (by omega)) KX11_isRooted IX11_isRooted VX11_isRooted rfl rfl rfl PX11_isRooted rfl rfl rfl rfl ?_
  refine z_go 90 rfl ?_
  refine z_ite (p := sRt S k) (fun q => ?_) (fun q => ?_)
  · rw [zif_pos (p := sRt (zV S 28 (fun b => if b < k then zif (sR0 S b) 1 0 else S 28 b)) k) q]
    refine z_br rfl rfl (fun c => absurd c (by first | decide | (dsimp only; decide))) (fun _ => ?_)
    refine z_go 90 rfl ?_
    exact st 1 (by rw [zif_pos (p := sR0 S k) ⟨by omega, d, q⟩])
  · rw [zif_neg (p := sRt (zV S 28 (fun b => if b < k then zif (sR0 S b) 1 0 else S 28 b)) k) q]
    refine z_br rfl rfl (fun _ => ?_) (fun c => absurd c (by first | decide | (dsimp only; decide)))
    refine z_go 90 rfl ?_
    exact st 0 (by rw [zif_neg (p := sR0 S k) (fun z => q z.2.2)])
end ZW2
