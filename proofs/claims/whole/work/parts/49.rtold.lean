section ZTO
variable {X : zCx} {h : zHp} {m : Nat} {S : zS} {cc : Nat}
def sLive (S : zS) (n : Nat) : Nat := zSum (fun b => if sN S 18 b = 0 then 1 else 0) n
def sLiveB (S : zS) (n : Nat) : Nat := zSum (fun b => if sN S 18 b = 0 then sN S 20 b else 0) n
noncomputable def sLostN (S : zS) (n : Nat) : Nat := zSum (fun b => zif (sLost S b) 1 0) n
noncomputable def sToldV (S : zS) (k : Nat) : Int32 := match k with
  | 0 => S 1 0
  | 1 => S 2 0
  | 2 => S 7 0
  | 3 => S 14 0
  | 4 => S 23 0
  | 5 => nI (sLive S (sN S 23 0))
  | 6 => S 27 0
  | 7 => S 25 0
  | 8 => nI (sHB S)
  | 9 => nI (sLiveB S (sN S 23 0))
  | 10 => nI (sGood S)
  | _ => nI (sLostN S (sN S 23 0))
noncomputable def sTold (S : zS) (p : Int32) : Int32 × zS := zif (p.toInt < 0 ∨ 11 < p.toInt) (0, sThrow S 1) (sToldV S p.toInt.toNat, if p.toInt.toNat = 11 then sWk (sThrow S 0) else sThrow S 0)
theorem rc_told1 (G : zG X) (I : sInv S cc) (k : Nat) (hk : k ≤ 11) : ∀ o4 : Option Value, Z X MX11_told (4, 210, h.2.1, h.2.2) (zr X h m S) 89 [some (.ref m), some (.int (nI k)), some (.int (nI (sLive S (sN S 23 0)))), some (.int (nI (sLiveB S (sN S 23 0)))), o4, none] [.int (nI k)] (zX (zr X h m (if k = 11 then sWk S else S)) (some (.int (sToldV S k)))) := by
  intro o4
  obtain ⟨I0, In, Ig, If, Ib, Iq, Ih, Im, c1, c2, c3, c4⟩ := id I
  have e23 : S 23 0 = nI (sN S 23 0) := sN_eq I0 (k := 23) (i := 0) rfl
  have hcase : k = 0 ∨ k = 1 ∨ k = 2 ∨ k = 3 ∨ k = 4 ∨ k = 5 ∨ k = 6 ∨ k = 7 ∨ k = 8 ∨ k = 9 ∨ k = 10 ∨ k = 11 := by omega
  rcases hcase with rfl | rfl | rfl | rfl | rfl | rfl | rfl | rfl | rfl | rfl | rfl | rfl
  · refine z_swI 148 0 rfl rfl (by decide) (by decide) rfl rfl ?_
    refine z_go 90 rfl ?_
    refine z_get zr_o rfl rfl rfl rfl ?_
    refine z_go 90 rfl ?_
    exact z_iret rfl rfl ⟨rfl, rfl⟩
  · refine z_swI 153 1 rfl rfl (by decide) (by decide) rfl rfl ?_
    refine z_go 90 rfl ?_
    refine z_get zr_o rfl rfl rfl rfl ?_
    refine z_go 90 rfl ?_
    exact z_iret rfl rfl ⟨rfl, rfl⟩
  · refine z_swI 158 2 rfl rfl (by decide) (by decide) rfl rfl ?_
    refine z_go 90 rfl ?_
    refine z_get zr_o rfl rfl rfl rfl ?_
    refine z_go 90 rfl ?_
    exact z_iret rfl rfl ⟨rfl, rfl⟩
  · refine z_swI 163 3 rfl rfl (by decide) (by decide) rfl rfl ?_
    refine z_go 90 rfl ?_
    refine z_get zr_o rfl rfl rfl rfl ?_
    refine z_go 90 rfl ?_
    exact z_iret rfl rfl ⟨rfl, rfl⟩
  · refine z_swI 168 4 rfl rfl (by decide) (by decide) rfl rfl ?_
    refine z_go 90 rfl ?_
    refine z_get zr_o rfl rfl rfl rfl ?_
    refine z_go 90 rfl ?_
    exact z_iret rfl rfl ⟨rfl, rfl⟩
  · refine z_swI 173 5 rfl rfl (by decide) (by decide) rfl rfl ?_
    refine z_go 90 rfl ?_
    exact z_iret rfl rfl ⟨rfl, rfl⟩
  · refine z_swI 175 6 rfl rfl (by decide) (by decide) rfl rfl ?_
    refine z_go 90 rfl ?_
    refine z_get zr_o rfl rfl rfl rfl ?_
    refine z_go 90 rfl ?_
    exact z_iret rfl rfl ⟨rfl, rfl⟩
  · refine z_swI 180 7 rfl rfl (by decide) (by decide) rfl rfl ?_
    refine z_go 90 rfl ?_
    refine z_get zr_o rfl rfl rfl rfl ?_
    refine z_go 90 rfl ?_
    exact z_iret rfl rfl ⟨rfl, rfl⟩
  · refine z_swI 185 8 rfl rfl (by decide) (by decide) rfl rfl ?_
    refine z_go 90 rfl ?_
    refine z_cV zr_o (rc_heldBytes G I) KX11_heldBytes IX11_heldBytes VX11_heldBytes rfl rfl rfl PX11_heldBytes rfl rfl rfl rfl ?_
    refine z_go 90 rfl ?_
    exact z_iret rfl rfl ⟨rfl, rfl⟩
  · refine z_swI 190 9 rfl rfl (by decide) (by decide) rfl rfl ?_
    refine z_go 90 rfl ?_
    exact z_iret rfl rfl ⟨rfl, rfl⟩
  · refine z_swI 192 10 rfl rfl (by decide) (by decide) rfl rfl ?_
    refine z_go 90 rfl ?_
    refine z_cV zr_o (rc_good G I) KX11_good IX11_good VX11_good rfl rfl rfl PX11_good rfl rfl rfl rfl ?_
    refine z_go 90 rfl ?_
    exact z_iret rfl rfl ⟨rfl, rfl⟩
  · refine z_swO 197 rfl (Or.inr (by decide)) rfl ?_
    refine z_go 90 rfl ?_
    refine z_cV zr_o (rc_walk G I) KX11_walk IX11_walk VX11_walk rfl rfl rfl PX11_walk rfl rfl rfl rfl ?_
    refine z_go 90 rfl ?_
    refine r_v23 (show S 23 0 = _ from e23) rfl rfl rfl ?_
    refine z_go 90 rfl ?_
    have H := zdown (P := fun b => Z X MX11_told (4, 210, h.2.1, h.2.2) (zr X h m (sWk S)) 213 [some (.ref m), some (.int (nI 11)), some (.int (nI (sLive S (sN S 23 0)))), some (.int (nI (sLiveB S (sN S 23 0)))), some (.int (nI (sLostN S b))), some (.int (nI b))] [.int (nI (sN S 23 0)), .int (nI b)] (zX (zr X h m (sWk S)) (some (.int (nI (sLostN S (sN S 23 0))))))) (sN S 23 0) (fun b hb ih => ?_) 0 (Nat.zero_le _)
    · exact H
    refine z_br rfl rfl (fun c => ?_) (fun c => ?_) <;> (try dsimp only at c)
    · rw [n_le (by omega) (by omega)] at c
      have : b = sN S 23 0 := by omega
      subst this
      refine z_go 90 rfl ?_
      exact z_iret rfl rfl ⟨rfl, rfl⟩
    rw [n_le (by omega) (by omega)] at c
    have hz : sLostN S (b + 1) = sLostN S b + zif (sLost S b) 1 0 := rfl
    have ih := ih (by omega)
    rw [hz] at ih
    refine z_go 90 rfl ?_
    refine z_cV zr_o (rc_isLost G I b (by omega)) KX11_isLost IX11_isLost VX11_isLost rfl rfl rfl PX11_isLost rfl rfl rfl rfl ?_
    refine z_go 90 rfl ?_
    refine z_ite (p := sLost S b) (fun q => ?_) (fun q => ?_)
    · rw [zif_pos q]
      rw [zif_pos q] at ih
      refine z_br rfl rfl (fun c => absurd c (by first | decide | (dsimp only; decide))) (fun _ => ?_)
      refine z_go 90 rfl ?_
      rw [show nI (sLostN S b) + (1 : Int32) = nI (sLostN S b + 1) from n_add _ 1, show nI b + (1 : Int32) = nI (b + 1) from n_succ b]
      refine r_v23 (show S 23 0 = _ from e23) rfl rfl rfl ?_
      refine z_go 90 rfl ?_
      exact ih
    · rw [zif_neg q]
      rw [zif_neg q] at ih
      refine z_br rfl rfl (fun _ => ?_) (fun c => absurd c (by first | decide | (dsimp only; decide)))
      refine z_go 90 rfl ?_
      rw [show nI (sLostN S b) + (0 : Int32) = nI (sLostN S b + 0) from n_add _ 0, show nI b + (1 : Int32) = nI (b + 1) from n_succ b]
      refine r_v23 (show S 23 0 = _ from e23) rfl rfl rfl ?_
      refine z_go 90 rfl ?_
      exact ih
theorem rc_told2 (G : zG X) (I : sInv S cc) (k : Nat) (hk : k ≤ 11) : Z X MX11_told (4, 210, h.2.1, h.2.2) (zr X h m S) 37 [some (.ref m), some (.int (nI k)), some (.int (nI 0)), some (.int (nI 0)), some (.int (nI 0)), none] [.int (nI (sN S 23 0)), .int (nI 0)] (zX (zr X h m (if k = 11 then sWk S else S)) (some (.int (sToldV S k)))) := by
  obtain ⟨I0, In, Ig, If, Ib, Iq, Ih, Im, c1, c2, c3, c4⟩ := id I
  have e23 : S 23 0 = nI (sN S 23 0) := sN_eq I0 (k := 23) (i := 0) rfl
  have H := zdown (P := fun b => Z X MX11_told (4, 210, h.2.1, h.2.2) (zr X h m S) 37 [some (.ref m), some (.int (nI k)), some (.int (nI (sLive S b))), some (.int (nI (sLiveB S b))), some (.int (nI b)), none] [.int (nI (sN S 23 0)), .int (nI b)] (zX (zr X h m (if k = 11 then sWk S else S)) (some (.int (sToldV S k))))) (sN S 23 0) (fun b hb ih => ?_) 0 (Nat.zero_le _)
  · exact H
  refine z_br rfl rfl (fun c => ?_) (fun c => ?_) <;> (try dsimp only at c)
  · rw [n_le (by omega) (by omega)] at c
    have : b = sN S 23 0 := by omega
    subst this
    refine z_go 90 rfl ?_
    exact rc_told1 G I k hk _
  rw [n_le (by omega) (by omega)] at c
  have hz1 : sLive S (b + 1) = sLive S b + if sN S 18 b = 0 then 1 else 0 := rfl
  have hz2 : sLiveB S (b + 1) = sLiveB S b + if sN S 18 b = 0 then sN S 20 b else 0 := rfl
  have ih := ih (by omega)
  rw [hz1, hz2] at ih
  have l18 := sN_lt I0 (k := 18) (i := b) rfl
  have l20 := sN_lt I0 (k := 20) (i := b) rfl
  refine z_go 90 rfl ?_
  refine z_get zr_o rfl rfl rfl rfl ?_
  refine z_go 90 rfl ?_
  refine r_lv18 b (sN_eq I0 rfl) (i_nI (by omega)) (by omega) rfl ?_
  refine z_go 90 rfl ?_
  refine z_br rfl rfl (fun d => ?_) (fun d => ?_) <;> (try dsimp only at d)
  · have d9 := d
    rw [show (0 : Int32) = nI 0 from rfl, n_eq (by omega) (by omega)] at d
    rw [if_neg d, if_neg d] at ih
    refine z_go 90 rfl ?_
    rw [show nI (sLive S b) + (0 : Int32) = nI (sLive S b + 0) from n_add _ 0]
    refine z_get zr_o rfl rfl rfl rfl ?_
    refine z_go 90 rfl ?_
    refine r_lv18 b (sN_eq I0 rfl) (i_nI (by omega)) (by omega) rfl ?_
    refine z_go 90 rfl ?_
    refine z_br rfl rfl (fun e => ?_) (fun e => ?_) <;> (try dsimp only at e)
    · refine z_go 90 rfl ?_
      rw [show nI (sLiveB S b) + (0 : Int32) = nI (sLiveB S b + 0) from n_add _ 0, show nI b + (1 : Int32) = nI (b + 1) from n_succ b]
      refine r_v23 e23 rfl rfl rfl ?_
      refine z_go 90 rfl ?_
      exact ih
    · exact absurd e d9
  · have d9 := d
    rw [show (0 : Int32) = nI 0 from rfl, n_eq (by omega) (by omega)] at d
    rw [if_pos d, if_pos d] at ih
    refine z_go 90 rfl ?_
    rw [show nI (sLive S b) + (1 : Int32) = nI (sLive S b + 1) from n_add _ 1]
    refine z_get zr_o rfl rfl rfl rfl ?_
    refine z_go 90 rfl ?_
    refine r_lv18 b (sN_eq I0 rfl) (i_nI (by omega)) (by omega) rfl ?_
    refine z_go 90 rfl ?_
    refine z_br rfl rfl (fun e => ?_) (fun e => ?_) <;> (try dsimp only at e)
    · exact absurd d9 e
    · refine z_go 90 rfl ?_
      refine z_get zr_o rfl rfl rfl rfl ?_
      refine z_go 90 rfl ?_
      refine r_lv20 b (sN_eq I0 rfl) (i_nI (by omega)) (by omega) rfl ?_
      refine z_go 90 rfl ?_
      rw [n_add, show nI b + (1 : Int32) = nI (b + 1) from n_succ b]
      refine r_v23 e23 rfl rfl rfl ?_
      refine z_go 90 rfl ?_
      exact ih
theorem sToldV_T (S : zS) (k : Nat) : sToldV (sThrow S 0) k = sToldV S k := by
  have h11 : nI (sLostN (sThrow S 0) (sN (sThrow S 0) 23 0)) = nI (sLostN S (sN S 23 0)) := by
    unfold sLostN
    rw [sLost_T]
    rfl
  unfold sToldV
  split <;> first | rfl | exact h11
theorem rc_told (G : zG X) (I : sInv S cc) (p : Int32) : ZM X MX11_told 4 210 [.ref m, .int p] (zr X h m S) (zX (zr X h m (sTold S p).2) (some (.int (sTold S p).1))) := by
  obtain ⟨I0, In, Ig, If, Ib, Iq, Ih, Im, c1, c2, c3, c4⟩ := id I
  have t0 : (0 : Int32).toInt = 0 := rfl
  have t11 : (11 : Int32).toInt = 11 := rfl
  have bad : (p.toInt < 0 ∨ 11 < p.toInt) → Z X MX11_told (4, 210, h.2.1, h.2.2) (zr X h m S) 16 [some (.ref m), some (.int p), none, none, none, none] [.int 1, .ref m] (zX (zr X h m (sTold S p).2) (some (.int (sTold S p).1))) := by
    intro hb
    refine rr_yes G (by decide) rfl rfl rfl rfl rfl ?_
    refine z_go 90 rfl ?_
    refine z_iret rfl rfl ?_
    unfold sTold
    rw [zif_pos hb]
    exact ⟨rfl, rfl⟩
  refine zm_of_z G KX11_told rfl rfl ?_
  refine z_go 90 rfl ?_
  refine z_br rfl rfl (fun c => ?_) (fun c => ?_) <;> (try dsimp only at c)
  · rw [i_lt] at c
    refine z_go 90 rfl ?_
    exact bad (by omega)
  rw [i_lt] at c
  refine z_go 90 rfl ?_
  refine z_br rfl rfl (fun d => ?_) (fun d => ?_) <;> (try dsimp only at d)
  case _ =>
    rw [i_le] at d
    refine z_go 90 rfl ?_
    refine rr_no G rfl rfl rfl rfl rfl ?_
    have hS : sTold S p = _ := zif_neg (by omega)
    rw [hS]
    obtain ⟨k, rfl, hk⟩ := i_nat (x := p) (by omega)
    rw [i_nI hk] at c d ⊢
    rw [Int.toNat_natCast, ← sToldV_T]
    refine z_go 90 rfl ?_
    refine r_v23 (show S 23 0 = nI (sN S 23 0) from sN_eq I0 rfl) rfl rfl rfl ?_
    refine z_go 90 rfl ?_
    exact rc_told2 (h := h) (m := m) (S := sThrow S 0) G (sInv_T I 0 (by decide)) k (by omega)
  · rw [i_le] at d
    refine z_go 90 rfl ?_
    exact bad (by omega)
end ZTO
