section ZFR
variable {X : zCx} {F : Nat → Option va_E} {o p q : Nat} {S : zS} {D : Nat → Nat → Nat} {W : Nat → Nat → Int32} {K : Nat → Nat → Nat} {h : zHp} {cc : Nat}
theorem sMay_c (I : sInv S cc) (kd w : Int32) : (zba S w = none ∧ sMay S kd w = (none, sTells S 11 w.toInt w 0 1)) ∨ (∃ k, zba S w = some k ∧ k < sN S 23 0 ∧ sN S 18 k = 1 ∧ sMay S kd w = (none, sTells S 10 w.toInt w 0 1)) ∨ (∃ k, zba S w = some k ∧ k < sN S 23 0 ∧ sN S 18 k = 0 ∧ S 17 k ≠ kd ∧ sMay S kd w = (none, sTells S 12 w.toInt w 0 1)) ∨ ∃ k, zba S w = some k ∧ k < sN S 23 0 ∧ sN S 18 k = 0 ∧ S 17 k = kd ∧ sMay S kd w = (some k, S) := by
  have b0 := sBIn_0 (w := w) I (Or.inl rfl)
  have b1 := sBIn_0 (w := w) I (Or.inr rfl)
  cases hz : zba S w with
  | none =>
    left
    rw [hz] at b0 b1
    refine ⟨rfl, ?_⟩
    unfold sMay
    rw [b0]
    dsimp only
    rw [b1]
  | some k =>
    right
    obtain ⟨h1, h2, h3⟩ := zba_s I hz
    rw [hz] at b0 b1
    dsimp only at b0 b1
    have e18 := sN_eq I.1 (k := 18) (i := k) rfl
    have l18 := (I.2.2.2.2.1.1 k h1).2.2.2.2.2.2.2
    have : sN S 18 k = 0 ∨ sN S 18 k = 1 := by omega
    rcases this with c | c
    · right
      rw [if_pos (by rw [e18, c]; rfl)] at b0
      by_cases d : S 17 k = kd
      · right
        refine ⟨k, rfl, h1, c, d, ?_⟩
        unfold sMay
        rw [b0]
        dsimp only
        rw [if_pos d]
      · left
        refine ⟨k, rfl, h1, c, d, ?_⟩
        unfold sMay
        rw [b0]
        dsimp only
        rw [if_neg d]
    · left
      rw [if_neg (by rw [e18, c]; decide)] at b0
      rw [if_pos (by rw [e18, c]; rfl)] at b1
      refine ⟨k, rfl, h1, c, ?_⟩
      unfold sMay
      rw [b0]
      dsimp only
      rw [b1]
theorem k_btf1 (G : zG X) (I : sInv S cc) (R : zSt X F o S D W K h p q) (kd w : Int32) {k : Nat} (hm : (sMay S kd w).1 = some k) : ZM X MX10_blockToFree 8 320 [.ref o, .int kd, .int w] h (zX h (some (.ref (D 18 k)))) := by
  rcases sMay_c I kd w with ⟨z, e⟩ | ⟨j, z, h1, h2, e⟩ | ⟨j, z, h1, h2, h3, e⟩ | ⟨j, z, h1, h2, h3, e⟩
  · rw [e] at hm; cases hm
  · rw [e] at hm; cases hm
  · rw [e] at hm; cases hm
  · rw [e] at hm
    cases hm
    have x18 := R.1.1 18 k h1
    have e18 : (nI (sN S 18 k)) = 0 := by rw [h2]; rfl
    refine zm_of_z G KX10_blockToFree rfl rfl ?_
    refine z_go 90 rfl ?_
    refine z_get (zSt_0 R) rfl rfl rfl rfl ?_
    refine z_go 90 rfl ?_
    refine z_cV (zRel_15 R.1) (k_blAt G I R w) KX4_blockAt IX4_blockAt VX4_blockAt rfl rfl rfl PX4_blockAt rfl rfl rfl rfl ?_
    rw [z]
    show Z X MX10_blockToFree _ _ _ _ (.ref (D 18 k) :: _) _
    refine z_go 90 rfl ?_
    refine z_get x18 rfl rfl rfl rfl ?_
    rw [e18]
    refine z_go 90 rfl ?_
    refine z_br rfl rfl (fun _ => ?_) (fun c => absurd c (by first | decide | (dsimp only; decide)))
    refine z_go 90 rfl ?_
    refine z_get x18 rfl rfl rfl rfl ?_
    refine z_go 90 rfl ?_
    refine z_br rfl rfl (fun _ => ?_) (fun c => absurd h3 c)
    refine z_go 90 rfl ?_
    exact z_aret (r := some (D 18 k)) rfl rfl (Or.inl ⟨_, rfl⟩) ⟨rfl, rfl⟩
theorem k_btf0 (G : zG X) (I : sInv S cc) (hc : sN S 27 0 < 512) (R : zSt X F o S D W K h p q) (hp : p ≤ 500000 ∧ q ≤ 7000000) (kd w : Int32) (hm : (sMay S kd w).1 = none) : ZM X MX10_blockToFree 8 320 [.ref o, .int kd, .int w] h (zPo X F o (some .null) (sMay S kd w).2 (p + 2) (q + 2000)) := by
  rcases sMay_c I kd w with ⟨z, e⟩ | ⟨j, z, h1, h2, e⟩ | ⟨j, z, h1, h2, h3, e⟩ | ⟨j, z, h1, h2, h3, e⟩
  · rw [e]
    refine zm_of_z G KX10_blockToFree rfl rfl ?_
    refine z_go 90 rfl ?_
    refine z_get (zSt_0 R) rfl rfl rfl rfl ?_
    refine z_go 90 rfl ?_
    refine z_cV (zRel_15 R.1) (k_blAt G I R w) KX4_blockAt IX4_blockAt VX4_blockAt rfl rfl rfl PX4_blockAt rfl rfl rfl rfl ?_
    rw [z]
    refine z_go 90 rfl ?_
    refine z_cVP (zSt_0 R) (k_tell G I hc R hp 11 w 0 1 w.toInt (Or.inl rfl)) KX10_tell IX10_tell VX10_tell rfl rfl rfl PX10_tell rfl rfl rfl rfl ?_
    intro g1 P1
    refine z_go 90 rfl ?_
    exact z_aret (r := none) rfl rfl (Or.inl ⟨_, rfl⟩) ⟨rfl, P1⟩
  · rw [e]
    have x18 := R.1.1 18 j h1
    have e18 : (nI (sN S 18 j)) = 1 := by rw [h2]; rfl
    refine zm_of_z G KX10_blockToFree rfl rfl ?_
    refine z_go 90 rfl ?_
    refine z_get (zSt_0 R) rfl rfl rfl rfl ?_
    refine z_go 90 rfl ?_
    refine z_cV (zRel_15 R.1) (k_blAt G I R w) KX4_blockAt IX4_blockAt VX4_blockAt rfl rfl rfl PX4_blockAt rfl rfl rfl rfl ?_
    rw [z]
    show Z X MX10_blockToFree _ _ _ _ (.ref (D 18 j) :: _) _
    refine z_go 90 rfl ?_
    refine z_get x18 rfl rfl rfl rfl ?_
    rw [e18]
    refine z_go 90 rfl ?_
    refine z_br rfl rfl (fun c => absurd c (by first | decide | (dsimp only; decide))) (fun _ => ?_)
    refine z_go 90 rfl ?_
    refine z_cVP (zSt_0 R) (k_tell G I hc R hp 10 w 0 1 w.toInt (Or.inl rfl)) KX10_tell IX10_tell VX10_tell rfl rfl rfl PX10_tell rfl rfl rfl rfl ?_
    intro g1 P1
    refine z_go 90 rfl ?_
    exact z_aret (r := none) rfl rfl (Or.inl ⟨_, rfl⟩) ⟨rfl, P1⟩
  · rw [e]
    have x18 := R.1.1 18 j h1
    have e18 : (nI (sN S 18 j)) = 0 := by rw [h2]; rfl
    refine zm_of_z G KX10_blockToFree rfl rfl ?_
    refine z_go 90 rfl ?_
    refine z_get (zSt_0 R) rfl rfl rfl rfl ?_
    refine z_go 90 rfl ?_
    refine z_cV (zRel_15 R.1) (k_blAt G I R w) KX4_blockAt IX4_blockAt VX4_blockAt rfl rfl rfl PX4_blockAt rfl rfl rfl rfl ?_
    rw [z]
    show Z X MX10_blockToFree _ _ _ _ (.ref (D 18 j) :: _) _
    refine z_go 90 rfl ?_
    refine z_get x18 rfl rfl rfl rfl ?_
    rw [e18]
    refine z_go 90 rfl ?_
    refine z_br rfl rfl (fun _ => ?_) (fun c => absurd c (by first | decide | (dsimp only; decide)))
    refine z_go 90 rfl ?_
    refine z_get x18 rfl rfl rfl rfl ?_
    refine z_go 90 rfl ?_
    refine z_br rfl rfl (fun c => absurd c h3) (fun _ => ?_)
    refine z_go 90 rfl ?_
    refine z_cVP (zSt_0 R) (k_tell G I hc R hp 12 w 0 1 w.toInt (Or.inl rfl)) KX10_tell IX10_tell VX10_tell rfl rfl rfl PX10_tell rfl rfl rfl rfl ?_
    intro g1 P1
    refine z_go 90 rfl ?_
    exact z_aret (r := none) rfl rfl (Or.inl ⟨_, rfl⟩) ⟨rfl, P1⟩
  · rw [e] at hm
    cases hm
theorem sShed_0 : ∀ (k : Nat) (S : zS), (sShed k S) 0 = S 0 := by
  intro k
  induction k with
  | zero => intro S; rfl
  | succ k ih =>
    intro S
    show (if sN S 2 0 < sHB S then sShed k (sOld S) else S) 0 = _
    split
    · exact ih (sOld S)
    · rfl
theorem sGoes_0 (S : zS) (b : Nat) (site : Int32) : (sGoes S b site) 0 = S 0 := sShed_0 _ (sHold S b site)
theorem sMay_2 (I : sInv S cc) (kd w : Int32) : (sMay S kd w).2 0 = S 0 := by
  rcases sMay_c I kd w with ⟨z, e⟩ | ⟨j, z, h1, h2, e⟩ | ⟨j, z, h1, h2, h3, e⟩ | ⟨j, z, h1, h2, h3, e⟩ <;> rw [e] <;> rfl
theorem sMay_1 (I : sInv S cc) {kd w : Int32} {k : Nat} (hm : (sMay S kd w).1 = some k) : k < sN S 23 0 ∧ sN S 18 k = 0 := by
  rcases sMay_c I kd w with ⟨z, e⟩ | ⟨j, z, h1, h2, e⟩ | ⟨j, z, h1, h2, h3, e⟩ | ⟨j, z, h1, h2, h3, e⟩
  · rw [e] at hm; cases hm
  · rw [e] at hm; cases hm
  · rw [e] at hm; cases hm
  · rw [e] at hm
    cases hm
    exact ⟨h1, h2⟩
theorem k_free (G : zG X) (I : sInv S cc) (hcc : cc < 512) (R : zSt X F o S D W K h p q) (hp : p ≤ 500000 ∧ q ≤ 7000000) (kd w site : Int32) : ZM X MX10_free 9 350 [.ref o, .int kd, .int w, .int site] h (zPub X F o zIAE zIAE (.int (sFreeC S kd w site).1) (sFreeC S kd w site).2 (p + 30) (q + 3000)) := by
  have I' := sInv_T I 0 (by decide)
  have R' := zSt_T R 0
  have lim := zSt_limA R hp
  obtain ⟨c1, c2, c3, c4⟩ := I.2.2.2.2.2.2.2.2
  have hc : sN (sThrow S 0) 27 0 < 512 := by show sN S 27 0 < 512; omega
  refine zm_of_z G KX10_free rfl rfl ?_
  refine z_go 90 rfl ?_
  refine z_cS (c_isKind G kd) KX10_isBlockKind SX10_isBlockKind rfl rfl PX10_isBlockKind rfl rfl rfl rfl ?_
  refine z_ite (p := 0 ≤ kd.toInt ∧ kd.toInt ≤ 2) (fun hk => ?_) (fun hk => ?_)
  · have hS : sFreeC S kd w site = zif (w = -1) _ _ := zif_neg (by omega)
    rw [hS, if_pos hk]
    refine z_cS (c_demand1 G 1 (by decide)) KX10_demand SX10_demand rfl rfl PX10_demand rfl rfl rfl rfl ?_
    refine z_go 90 rfl ?_
    refine z_br rfl rfl (fun e => ?_) (fun e => ?_) <;> (try dsimp only at e)
    · rw [zif_neg e]
      refine z_go 90 rfl ?_
      cases hm : (sMay (sThrow S 0) kd w).1 with
      | none =>
        refine z_cVP (zSt_0 R) (k_btf0 G I' hc R' hp kd w hm) KX10_blockToFree IX10_blockToFree VX10_blockToFree rfl rfl rfl PX10_blockToFree rfl rfl rfl rfl ?_
        intro g1 P1
        refine z_go 90 rfl ?_
        exact z_zret rfl rfl rfl (zPub_t P1 (by rw [sMay_2 I']; rfl))
      | some b =>
        have hb := sMay_1 I' hm
        refine z_cV (zSt_0 R) (k_btf1 G I' R' kd w hm) KX10_blockToFree IX10_blockToFree VX10_blockToFree rfl rfl rfl PX10_blockToFree rfl rfl rfl rfl ?_
        refine z_go 90 rfl ?_
        refine z_get (zSt_0 R) rfl rfl rfl rfl ?_
        refine z_go 90 rfl ?_
        refine z_cVP (zRel_15 R.1) (k_take G I' R' hp site hb.1 hb.2 (c' := cc + 1) (by show sN S 25 0 + 1 ≤ cc + 1; omega) (by omega) (by omega)) KX4_takeBack IX4_takeBack VX4_takeBack rfl rfl rfl PX4_takeBack rfl rfl rfl rfl ?_
        intro g1 P1
        obtain ⟨D', W', K', -, P1⟩ := P1
        refine z_go 90 rfl ?_
        exact z_zret rfl rfl rfl (zPub_t ⟨D', W', K', P1⟩ (by show sGoes (sThrow S 0) b site 0 0 = 0; rw [sGoes_0]; rfl))
    · rw [zif_pos e]
      refine z_go 90 rfl ?_
      exact z_zret rfl rfl rfl (zPub_k R' rfl)
  · rw [show sFreeC S kd w site = (0, sThrow S 1) from zif_pos (by omega), if_neg hk]
    refine z_cST (c_demand0 G lim) KX10_demand SX10_demand rfl rfl PX10_demand rfl rfl rfl rfl rfl ?_
    exact zPub_x R
end ZFR
