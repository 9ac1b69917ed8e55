section ZEN3
variable {X : zCx} {F : Nat → Option va_E} {o p q : Nat} {S : zS} {D : Nat → Nat → Nat} {W : Nat → Nat → Int32} {K : Nat → Nat → Nat} {h : zHp} {cc : Nat}
theorem sEnterB_0 (S : zS) (s : Nat → Nat) : (sEnterB S s).2 0 = S 0 := by
  unfold sEnterB
  split
  · rfl
  · obtain ⟨-, r2, -⟩ := sEntL_r (s := s) (fr := sN S 14 0) (e := sFe S) (t := (sPaint (zV (zV S 8 (upd (S 8) (sN S 14 0) (nI (sFe S - (32 + zSum (fun i => sSp (s i)) 4))))) 9 (upd (S 9) (sN S 14 0) (nI (sFe S)))) (sFe S - (32 + zSum (fun i => sSp (s i)) 4)) (sFe S - (32 + zSum (fun i => sSp (s i)) 4) + 32) 241, 0, sFe S - (32 + zSum (fun i => sSp (s i)) 4) + 32)) 4
    exact r2 0 ⟨rfl, rfl, rfl, rfl, trivial⟩
theorem i_or0 {a b : Int32} (h : a ||| b ≠ 0) : a ≠ 0 ∨ b ≠ 0 := by
  by_cases c : a = 0
  · right
    rintro rfl
    rw [c] at h
    exact h (by decide)
  · exact Or.inl c
theorem k_enter (G : zG X) (I : sInv S cc) (hcc : cc < 512) (R : zSt X F o S D W K h p q) (hp : p + 100 ≤ 500000 ∧ q + 10000 ≤ 7000000) (hF : ∀ x e, F x = some e → x < h.2.1) (a b c d : Int32) : ZM X MX10_enter 9 370 [.ref o, .int a, .int b, .int c, .int d] h (zPub X F o zIAE zIAE (.int (sEnter S a b c d).1) (sEnter S a b c d).2 (p + 30) (q + 3000)) := by
  have I' := sInv_T I 0 (by decide)
  have R' := zSt_T R 0
  have lim := zSt_limA R (by omega)
  have h8 := R.1.1 8 0 ⟨rfl, by decide⟩
  by_cases bad : sBadE a b c d
  · rw [show sEnter S a b c d = (0, sThrow S 1) from zif_pos bad]
    unfold sBadE at bad
    refine zm_of_z G KX10_enter rfl rfl ?_
    refine z_go 90 rfl ?_
    refine z_cS (c_isVarSize G a) KX10_isVariableSize SX10_isVariableSize rfl rfl PX10_isVariableSize rfl rfl rfl rfl ?_
    refine z_ite (p := 0 ≤ a.toInt ∧ a.toInt ≤ 128) (fun ha => ?_) (fun ha => ?_)
    · rw [if_pos ha]
      refine z_br rfl rfl (fun c => absurd c (by first | decide | (dsimp only; decide))) (fun _ => ?_)
      refine z_go 90 rfl ?_
      refine z_cS (c_isVarSize G b) KX10_isVariableSize SX10_isVariableSize rfl rfl PX10_isVariableSize rfl rfl rfl rfl ?_
      refine z_ite (p := 0 ≤ b.toInt ∧ b.toInt ≤ 128) (fun hb => ?_) (fun hb => ?_)
      · rw [if_pos hb]
        refine z_br rfl rfl (fun c => absurd c (by first | decide | (dsimp only; decide))) (fun _ => ?_)
        refine z_go 90 rfl ?_
        refine z_cS (c_isVarSize G c) KX10_isVariableSize SX10_isVariableSize rfl rfl PX10_isVariableSize rfl rfl rfl rfl ?_
        refine z_ite (p := 0 ≤ c.toInt ∧ c.toInt ≤ 128) (fun hc => ?_) (fun hc => ?_)
        · rw [if_pos hc]
          refine z_br rfl rfl (fun c => absurd c (by first | decide | (dsimp only; decide))) (fun _ => ?_)
          refine z_go 90 rfl ?_
          refine z_cS (c_isVarSize G d) KX10_isVariableSize SX10_isVariableSize rfl rfl PX10_isVariableSize rfl rfl rfl rfl ?_
          refine z_ite (p := 0 ≤ d.toInt ∧ d.toInt ≤ 128) (fun hd => ?_) (fun hd => ?_)
          · rw [if_pos hd]
            refine z_br rfl rfl (fun c => absurd c (by first | decide | (dsimp only; decide))) (fun _ => ?_)
            refine z_go 90 rfl ?_
            refine z_cS (c_demand1 G 1 (by decide)) KX10_demand SX10_demand rfl rfl PX10_demand rfl rfl rfl rfl ?_
            refine z_go 90 rfl ?_
            have e0 : a ||| b ||| c ||| d = 0 := by
              rcases bad with z | z | z | z | z
              · exact absurd ha z
              · exact absurd hb z
              · exact absurd hc z
              · exact absurd hd z
              · exact z
            rw [e0]
            refine z_br rfl rfl (fun _ => ?_) (fun c => absurd c (by first | decide | (dsimp only; decide)))
            refine z_go 90 rfl ?_
            refine z_cST (c_demand0 G lim) KX10_demand SX10_demand rfl rfl PX10_demand rfl rfl rfl rfl rfl ?_
            exact zPub_x R
          · rw [if_neg hd]
            refine z_br rfl rfl (fun _ => ?_) (fun c => absurd c (by first | decide | (dsimp only; decide)))
            refine z_go 90 rfl ?_
            refine z_cST (c_demand0 G lim) KX10_demand SX10_demand rfl rfl PX10_demand rfl rfl rfl rfl rfl ?_
            exact zPub_x R
        · rw [if_neg hc]
          refine z_br rfl rfl (fun _ => ?_) (fun c => absurd c (by first | decide | (dsimp only; decide)))
          refine z_go 90 rfl ?_
          refine z_cST (c_demand0 G lim) KX10_demand SX10_demand rfl rfl PX10_demand rfl rfl rfl rfl rfl ?_
          exact zPub_x R
      · rw [if_neg hb]
        refine z_br rfl rfl (fun _ => ?_) (fun c => absurd c (by first | decide | (dsimp only; decide)))
        refine z_go 90 rfl ?_
        refine z_cST (c_demand0 G lim) KX10_demand SX10_demand rfl rfl PX10_demand rfl rfl rfl rfl rfl ?_
        exact zPub_x R
    · rw [if_neg ha]
      refine z_br rfl rfl (fun _ => ?_) (fun c => absurd c (by first | decide | (dsimp only; decide)))
      refine z_go 90 rfl ?_
      refine z_cST (c_demand0 G lim) KX10_demand SX10_demand rfl rfl PX10_demand rfl rfl rfl rfl rfl ?_
      exact zPub_x R
  · have hS : sEnter S a b c d = sEnterB (sThrow S 0) (sSz a.toInt.toNat b.toInt.toNat c.toInt.toNat d.toInt.toNat) := zif_neg bad
    rw [hS]
    unfold sBadE at bad
    have ha : 0 ≤ a.toInt ∧ a.toInt ≤ 128 := Classical.byContradiction fun z => bad (Or.inl z)
    have hb : 0 ≤ b.toInt ∧ b.toInt ≤ 128 := Classical.byContradiction fun z => bad (Or.inr (Or.inl z))
    have hc : 0 ≤ c.toInt ∧ c.toInt ≤ 128 := Classical.byContradiction fun z => bad (Or.inr (Or.inr (Or.inl z)))
    have hd : 0 ≤ d.toInt ∧ d.toInt ≤ 128 := Classical.byContradiction fun z => bad (Or.inr (Or.inr (Or.inr (Or.inl z))))
    have h0 : a ||| b ||| c ||| d ≠ 0 := fun z => bad (Or.inr (Or.inr (Or.inr (Or.inr z))))
    obtain ⟨a, rfl, a9⟩ := i_nat ha.1
    obtain ⟨b, rfl, b9⟩ := i_nat hb.1
    obtain ⟨c, rfl, c9⟩ := i_nat hc.1
    obtain ⟨d, rfl, d9⟩ := i_nat hd.1
    rw [n_toNat a9, n_toNat b9, n_toNat c9, n_toNat d9]
    have hz : ∀ {x : Nat}, nI x ≠ 0 → x ≠ 0 := fun {x} q => by
      rintro rfl
      exact q rfl
    have hnz : ∃ k, k < 4 ∧ sSz a b c d k ≠ 0 := by
      rcases i_or0 h0 with z | z
      · rcases i_or0 z with z | z
        · rcases i_or0 z with z | z
          · exact ⟨0, by omega, hz z⟩
          · exact ⟨1, by omega, hz z⟩
        · exact ⟨2, by omega, hz z⟩
      · exact ⟨3, by omega, hz z⟩
    have hs : ∀ k, sSz a b c d k ≤ 128 := fun k => by
      rw [i_nI a9] at ha
      rw [i_nI b9] at hb
      rw [i_nI c9] at hc
      rw [i_nI d9] at hd
      match k with
      | 0 => show a ≤ 128; omega
      | 1 => show b ≤ 128; omega
      | 2 => show c ≤ 128; omega
      | n + 3 => show d ≤ 128; omega
    refine zm_of_z G KX10_enter rfl rfl ?_
    refine z_go 90 rfl ?_
    refine z_cS (c_isVarSize G (nI a)) KX10_isVariableSize SX10_isVariableSize rfl rfl PX10_isVariableSize rfl rfl rfl rfl ?_
    rw [if_pos ha]
    refine z_br rfl rfl (fun c => absurd c (by first | decide | (dsimp only; decide))) (fun _ => ?_)
    refine z_go 90 rfl ?_
    refine z_cS (c_isVarSize G (nI b)) KX10_isVariableSize SX10_isVariableSize rfl rfl PX10_isVariableSize rfl rfl rfl rfl ?_
    rw [if_pos hb]
    refine z_br rfl rfl (fun c => absurd c (by first | decide | (dsimp only; decide))) (fun _ => ?_)
    refine z_go 90 rfl ?_
    refine z_cS (c_isVarSize G (nI c)) KX10_isVariableSize SX10_isVariableSize rfl rfl PX10_isVariableSize rfl rfl rfl rfl ?_
    rw [if_pos hc]
    refine z_br rfl rfl (fun c => absurd c (by first | decide | (dsimp only; decide))) (fun _ => ?_)
    refine z_go 90 rfl ?_
    refine z_cS (c_isVarSize G (nI d)) KX10_isVariableSize SX10_isVariableSize rfl rfl PX10_isVariableSize rfl rfl rfl rfl ?_
    rw [if_pos hd]
    refine z_br rfl rfl (fun c => absurd c (by first | decide | (dsimp only; decide))) (fun _ => ?_)
    refine z_go 90 rfl ?_
    refine z_cS (c_demand1 G 1 (by decide)) KX10_demand SX10_demand rfl rfl PX10_demand rfl rfl rfl rfl ?_
    refine z_go 90 rfl ?_
    refine z_br rfl rfl (fun z => absurd z h0) (fun _ => ?_)
    refine z_go 90 rfl ?_
    refine z_cS (c_demand1 G 1 (by decide)) KX10_demand SX10_demand rfl rfl PX10_demand rfl rfl rfl rfl ?_
    refine z_go 90 rfl ?_
    refine z_get (zSt_0 R) rfl rfl rfl rfl ?_
    refine z_go 90 rfl ?_
    refine z_cVP h8 (k_push G I' R' hp a b c d hs hnz hF) KX2_push IX2_push VX2_push rfl rfl rfl PX2_push rfl rfl rfl rfl ?_
    intro h1 P1
    obtain ⟨D1, W1, K1, P1⟩ := P1
    exact z_iret rfl rfl ⟨⟨D1, W1, K1, zSt_le P1 (by omega) (by omega)⟩, Or.inl ⟨by rw [sEnterB_0]; rfl, rfl⟩⟩
end ZEN3
