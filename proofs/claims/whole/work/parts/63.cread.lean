section ZCR
variable {X : zCx} {S : zS} {D : Nat → Nat → Nat} {W : Nat → Nat → Int32} {K : Nat → Nat → Nat} {h : zHp} {cc : Nat}
/-- a static call that throws, out of a method without handlers -/
theorem z_cST {M : zMI} {f : zFr} {pc : Nat} {L : zLo} {Q : zRs → zHp → Prop} {M' : zMI} {fr lo : Nat} {As st stk : List Value} {h1 : zHp} {E : String} {p0 idx nx t : Nat} {lv : Int32} (hM : ZM X M' fr lo As h (zXT h1 E)) (hK : zMK M') (hsa : Jvm.Cond.static (zNm M') ∈ lw_tbl) (hf : zlk (zFt M) pc = some (p0, .invokestatic idx, nx, lv, t)) (hr : zML[t]? = some ((zNm M).cls, idx, zNm M')) (hln : (parseMethodDescriptor (zNm M').desc).map (fun d => d.parameters.length) = some As.length) (hfr : Nat.ble (fr + 1) f.1 = true) (hlc : Nat.ble (8 + (zNL M' + 11) + lo) f.2.1 = true) (hstk : zap As st = stk) (hw : Nat.ble (zcat st) 8 = true) (hh : zHh M = [])
    (hq : Q (.inr E) h1) : Z X M f h pc L stk Q :=
  z_invS hM hK hsa hf hr hln hfr hlc hstk hw (fun v h' q => by cases q.2) (fun E' h' q => by obtain ⟨rfl, q2⟩ := q; cases q2; exact zt_out hh hq)
theorem zRel_0 (R : zRel X S D W K h) : h.1 (D 0 0) = some (.inr (11, [.ref (D 1 0), .ref (D 4 0), .ref (D 8 0), .ref (D 15 0), .ref (D 22 0), .ref (D 25 0)])) := R.1 0 0 ⟨rfl, by decide⟩
theorem k_shadow1 (G : zG X) (I : sInv S cc) (R : zRel X S D W K h) (p : Int32) (hp : ¬ (p.toInt < 0 ∨ (sN S 1 0 / 8 : Nat) ≤ p.toInt)) : ZM X MX10_shadow 7 290 [.ref (D 0 0), .int p] h (zX h (some (.int (S 4 p.toInt.toNat)))) := by
  have M := zRel_mem R I.2.1
  have N2 := I.2.1.2.1
  have t8 := i_nI (n := sN S 1 0 / 8) (by omega)
  refine zm_of_z G KX10_shadow rfl rfl ?_
  refine z_go 90 rfl ?_
  refine z_get (zRel_0 R) rfl rfl rfl rfl ?_
  refine z_cV M.1 (c_granules G M) KX6_granules IX6_granules VX6_granules rfl rfl rfl PX6_granules rfl rfl rfl rfl ?_
  refine z_cS (c_index1 G p (nI (sN S 1 0 / 8)) (by omega) (by omega)) KX10_demandIndex SX10_demandIndex rfl rfl PX10_demandIndex rfl rfl rfl rfl ?_
  refine z_go 90 rfl ?_
  refine z_get (zRel_0 R) rfl rfl rfl rfl ?_
  refine z_go 90 rfl ?_
  refine z_cV M.1 (c_shadowOf G M p) KX6_shadowOf IX6_shadowOf VX6_shadowOf rfl rfl rfl PX6_shadowOf rfl rfl rfl rfl ?_
  rw [zif_pos (by omega)]
  exact z_iret rfl rfl ⟨rfl, rfl⟩
theorem k_shadow0 (G : zG X) (I : sInv S cc) (R : zRel X S D W K h) (p : Int32) (hp : p.toInt < 0 ∨ (sN S 1 0 / 8 : Nat) ≤ p.toInt) (hlim : zLim X (zadd h 1 6)) : ZM X MX10_shadow 7 290 [.ref (D 0 0), .int p] h (zXT (zadd h 1 6) zIOE) := by
  have M := zRel_mem R I.2.1
  have N2 := I.2.1.2.1
  have t8 := i_nI (n := sN S 1 0 / 8) (by omega)
  refine zm_of_z G KX10_shadow rfl rfl ?_
  refine z_go 90 rfl ?_
  refine z_get (zRel_0 R) rfl rfl rfl rfl ?_
  refine z_cV M.1 (c_granules G M) KX6_granules IX6_granules VX6_granules rfl rfl rfl PX6_granules rfl rfl rfl rfl ?_
  exact z_cST (c_index0 G p (nI (sN S 1 0 / 8)) (by omega) hlim) KX10_demandIndex SX10_demandIndex rfl rfl PX10_demandIndex rfl rfl rfl rfl rfl ⟨rfl, rfl⟩
theorem k_peek1 (G : zG X) (I : sInv S cc) (R : zRel X S D W K h) (p : Int32) (hp : ¬ (p.toInt < 0 ∨ (sN S 1 0 : Int) ≤ p.toInt)) : ZM X MX10_peek 7 290 [.ref (D 0 0), .int p] h (zX h (some (.int (S 3 p.toInt.toNat &&& 255)))) := by
  have M := zRel_mem R I.2.1
  have N2 := I.2.1.2.1
  have t8 := i_nI (n := sN S 1 0) (by omega)
  refine zm_of_z G KX10_peek rfl rfl ?_
  refine z_go 90 rfl ?_
  refine z_get (zRel_0 R) rfl rfl rfl rfl ?_
  refine z_get M.1 rfl rfl rfl rfl ?_
  refine z_cS (c_index1 G p (nI (sN S 1 0)) (by omega) (by omega)) KX10_demandIndex SX10_demandIndex rfl rfl PX10_demandIndex rfl rfl rfl rfl ?_
  refine z_go 90 rfl ?_
  refine z_get (zRel_0 R) rfl rfl rfl rfl ?_
  refine z_go 90 rfl ?_
  refine z_cV M.1 (c_byteAt G M p) KX6_byteAt IX6_byteAt VX6_byteAt rfl rfl rfl PX6_byteAt rfl rfl rfl rfl ?_
  rw [zif_pos (by omega)]
  exact z_iret rfl rfl ⟨rfl, rfl⟩
theorem k_peek0 (G : zG X) (I : sInv S cc) (R : zRel X S D W K h) (p : Int32) (hp : p.toInt < 0 ∨ (sN S 1 0 : Int) ≤ p.toInt) (hlim : zLim X (zadd h 1 6)) : ZM X MX10_peek 7 290 [.ref (D 0 0), .int p] h (zXT (zadd h 1 6) zIOE) := by
  have M := zRel_mem R I.2.1
  have N2 := I.2.1.2.1
  have t8 := i_nI (n := sN S 1 0) (by omega)
  refine zm_of_z G KX10_peek rfl rfl ?_
  refine z_go 90 rfl ?_
  refine z_get (zRel_0 R) rfl rfl rfl rfl ?_
  refine z_get M.1 rfl rfl rfl rfl ?_
  exact z_cST (c_index0 G p (nI (sN S 1 0)) (by omega) hlim) KX10_demandIndex SX10_demandIndex rfl rfl PX10_demandIndex rfl rfl rfl rfl rfl ⟨rfl, rfl⟩
theorem zRel_15 (R : zRel X S D W K h) : h.1 (D 15 0) = some (.inr (5, [.ref (D 1 0), .int (nI (sN S 2 0)), .ref (D 16 0), .ref (D 19 0), .ref (D 21 0), .int (nI (sLive S (sN S 23 0))), .int (nI (sLiveB S (sN S 23 0))), .int (nI (sHB S))])) := R.1 15 0 ⟨rfl, by decide⟩
theorem k_held1 (G : zG X) (I : sInv S cc) (R : zRel X S D W K h) (p : Int32) (hp : ¬ (p.toInt < 0 ∨ (sN S 25 0 : Int) ≤ p.toInt)) : ZM X MX10_held 7 290 [.ref (D 0 0), .int p] h (zX h (some (.int (S 24 p.toInt.toNat)))) := by
  obtain ⟨I0, In, Ig, If, Ib, Iq, Ih, Im, c1, c2, c3, c4⟩ := id I
  have A : zAl X h (D 19 0) (D 20 0) (W 19 0) (sN S 25 0) (K 20 0) (zes S D K 19 0) := zRel_al R (r := 19) (i := 0) (Or.inl ⟨rfl, by decide⟩)
  have t := i_nI (n := sN S 25 0) (by omega)
  have hq := (Iq.1 p.toInt.toNat (by omega)).1
  refine zm_of_z G KX10_held rfl rfl ?_
  refine z_go 90 rfl ?_
  refine z_get (zRel_0 R) rfl rfl rfl rfl ?_
  refine z_get (zRel_15 R) rfl rfl rfl rfl ?_
  refine z_cV A.1 (c_size (z := .null) G A.1) KJx4a65c_size_8abf5 IJx4a65c_size_8abf5 VJx4a65c_size_8abf5 rfl rfl rfl PJx4a65c_size_8abf5 rfl rfl rfl rfl ?_
  refine z_cS (c_index1 G p (nI (sN S 25 0)) (by omega) (by omega)) KX10_demandIndex SX10_demandIndex rfl rfl PX10_demandIndex rfl rfl rfl rfl ?_
  refine z_go 90 rfl ?_
  refine z_get (zRel_0 R) rfl rfl rfl rfl ?_
  refine z_get (zRel_15 R) rfl rfl rfl rfl ?_
  refine z_go 90 rfl ?_
  refine z_cV A.1 (c_get G (b := D 18 (sN S 24 p.toInt.toNat)) p.toInt.toNat A (by omega) (by omega) (if_pos (by show p.toInt.toNat < sN S 25 0; omega))) KJx4a65c_get_915e3 IJx4a65c_get_915e3 VJx4a65c_get_915e3 rfl rfl rfl PJx4a65c_get_915e3 rfl rfl rfl rfl ?_
  refine z_cast (R.1 18 _ hq) rfl rfl (by decide +kernel) ?_
  refine z_get (R.1 18 _ hq) rfl rfl rfl rfl ?_
  exact z_iret rfl rfl ⟨rfl, by rw [← sN_eq I0 (k := 24) (i := p.toInt.toNat) rfl]⟩
theorem k_held0 (G : zG X) (I : sInv S cc) (R : zRel X S D W K h) (p : Int32) (hp : p.toInt < 0 ∨ (sN S 25 0 : Int) ≤ p.toInt) (hlim : zLim X (zadd h 1 6)) : ZM X MX10_held 7 290 [.ref (D 0 0), .int p] h (zXT (zadd h 1 6) zIOE) := by
  obtain ⟨I0, In, Ig, If, Ib, Iq, Ih, Im, c1, c2, c3, c4⟩ := id I
  have A : zAl X h (D 19 0) (D 20 0) (W 19 0) (sN S 25 0) (K 20 0) (zes S D K 19 0) := zRel_al R (r := 19) (i := 0) (Or.inl ⟨rfl, by decide⟩)
  have t := i_nI (n := sN S 25 0) (by omega)
  refine zm_of_z G KX10_held rfl rfl ?_
  refine z_go 90 rfl ?_
  refine z_get (zRel_0 R) rfl rfl rfl rfl ?_
  refine z_get (zRel_15 R) rfl rfl rfl rfl ?_
  refine z_cV A.1 (c_size (z := .null) G A.1) KJx4a65c_size_8abf5 IJx4a65c_size_8abf5 VJx4a65c_size_8abf5 rfl rfl rfl PJx4a65c_size_8abf5 rfl rfl rfl rfl ?_
  exact z_cST (c_index0 G p (nI (sN S 25 0)) (by omega) hlim) KX10_demandIndex SX10_demandIndex rfl rfl PX10_demandIndex rfl rfl rfl rfl rfl ⟨rfl, rfl⟩
end ZCR
