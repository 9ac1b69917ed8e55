theorem zac0 : Jvm.Cond.arrayClass (zTy 0) ∈ lw_tbl := z_in (List.mem_of_getElem? (i := 80) (by decide +kernel))
theorem zac1 : Jvm.Cond.arrayClass (zTy 1) ∈ lw_tbl := z_in (List.mem_of_getElem? (i := 1387) (by decide +kernel))
theorem zac2 : Jvm.Cond.arrayClass (zTy 2) ∈ lw_tbl := z_in (List.mem_of_getElem? (i := 512) (by decide +kernel))
theorem zac3 : Jvm.Cond.arrayClass (zTy 3) ∈ lw_tbl := z_in (List.mem_of_getElem? (i := 1159) (by decide +kernel))
theorem zao4 : Jvm.Cond.arrayOver (zTy 4) ∈ lw_tbl := z_in (List.mem_of_getElem? (i := 417) (by decide +kernel))
theorem zao5 : Jvm.Cond.arrayOver (zTy 5) ∈ lw_tbl := z_in (List.mem_of_getElem? (i := 148) (by decide +kernel))
theorem zcpN : Jvm.Cond.native arraycopyName ∈ lw_tbl := z_in (List.mem_of_getElem? (i := 422) (by decide +kernel))
theorem zcpS : Jvm.Cond.static arraycopyName ∈ lw_tbl := z_in (List.mem_of_getElem? (i := 421) (by decide +kernel))
theorem zcpI : Jvm.Cond.initialized "java/lang/System" ∈ lw_tbl := z_in (List.mem_of_getElem? (i := 21) (by decide +kernel))
theorem zoiI : Jvm.Cond.instanceMethod Lib.objectInit ∈ lw_tbl := z_in (List.mem_of_getElem? (i := 35) (by decide +kernel))
theorem zoiC : Jvm.Cond.code Lib.objectInit ⟨#[0xb1]⟩ 1 none ∈ lw_tbl := z_in (List.mem_of_getElem? (i := 36) (by decide +kernel))
section ZN
variable {X : zCx} {M : zMI} {f : zFr} {h : zHp} {pc : Nat} {L : zLo} {st : List Value} {Q : zRs → zHp → Prop}
theorem z_cells {k c : Nat} {e : va_E} (hl : zLim X (znew h e k)) (hn : f.2.2.1 ≤ h.2.1) (hk : f.2.2.2 ≤ h.2.2) : h.2.1 - f.2.2.1 + 1 ≤ (zRm X f).cells ∧ h.2.2 - f.2.2.2 + k ≤ (zRm X f).slots ∧ h.2.1 - f.2.2.1 + 1 = (znew h e k).2.1 - f.2.2.1 ∧ h.2.2 - f.2.2.2 + k = (znew h e k).2.2 - f.2.2.2 := by
  have l1 : h.2.1 + 1 ≤ zB X + 601024 := hl.1
  have l2 : h.2.2 + k ≤ 7293000 := hl.2
  refine ⟨?_, ?_, ?_, ?_⟩
  · show _ ≤ zB X + 601024 - f.2.2.1; omega
  · show _ ≤ 7293000 - f.2.2.2; omega
  · show _ = h.2.1 + 1 - f.2.2.1; omega
  · show _ = h.2.2 + k - f.2.2.2; omega
theorem z_newI {n : Int32} (N : Nat) {p0 nx t : Nat} {lv : Int32} (hf : zlk (zFt M) pc = some (p0, .newarray .int, nx, lv, t)) (hN : n.toInt = (N : Int)) (hb9 : N ≤ 10000) (hlim : zLim X (znew h (zI X N (fun _ => 0)) N)) (kk : Z X M f (znew h (zI X N (fun _ => 0)) N) nx L (.ref h.2.1 :: st) Q) : Z X M f h pc L (.int n :: st) Q := by
  intro p ev s m args below meth c H locs ls E hR hn hk0 hlo hl
  obtain ⟨hG, hM, hx, hb, -, -, -, hown, hW, -⟩ := id E
  obtain ⟨d, rfl, -⟩ := zdn hM hf (n := 1) rfl
  obtain ⟨c1, c2, c3, c4⟩ := z_cells (c := 0) hlim hn hk0
  have hneg : ¬ n < 0 := by rw [i_lt]; show ¬ n.toInt < 0; omega
  have hcl : n.toNatClampNeg = N := by show n.toInt.toNat = N; omega
  refine va_newaK (R := zRm X f) (atype := .int) hx hb (zw hG hW zac0 rfl) rfl d rfl hneg hcl (by show N * 4 ≤ 536870912; omega) c1 c2 hR.1 fun H1 cA e1 z1 o1 hAr hNm => ?_
  have hA9 : cA = zA X 0 := Option.some.inj (hNm.symm.trans ((zKs hG hW).2 0 _ (zTys_at X (k := 0) (by decide))).2)
  subst hA9
  rw [c3, c4]
  have r1 := hR.1
  refine kk p ev s m args below meth c H1 locs ls E (hR.new _ (show va_at (zD X) vwCl (h.2.1, zI X N (fun _ => 0)) H1 from ?_) (by omega) (fun q hq => o1 q (by omega)) hlim) (by show _ ≤ h.2.1 + 1; omega) (by show _ ≤ h.2.2 + N; omega) hlo hl
  show H1[h.2.1]? = some (vp_cell _ _)
  rw [e1]
  rfl
theorem z_newJ {n : Int32} (N : Nat) {p0 nx t : Nat} {lv : Int32} (hf : zlk (zFt M) pc = some (p0, .newarray .long, nx, lv, t)) (hN : n.toInt = (N : Int)) (hb9 : N ≤ 10000) (hlim : zLim X (znew h (zJ X N (fun _ => 0)) N)) (kk : Z X M f (znew h (zJ X N (fun _ => 0)) N) nx L (.ref h.2.1 :: st) Q) : Z X M f h pc L (.int n :: st) Q := by
  intro p ev s m args below meth c H locs ls E hR hn hk0 hlo hl
  obtain ⟨hG, hM, hx, hb, -, -, -, hown, hW, -⟩ := id E
  obtain ⟨d, rfl, -⟩ := zdn hM hf (n := 1) rfl
  obtain ⟨c1, c2, c3, c4⟩ := z_cells (c := 0) hlim hn hk0
  have hneg : ¬ n < 0 := by rw [i_lt]; show ¬ n.toInt < 0; omega
  have hcl : n.toNatClampNeg = N := by show n.toInt.toNat = N; omega
  refine va_newaK (R := zRm X f) (atype := .long) hx hb (zw hG hW zac1 rfl) rfl d rfl hneg hcl (by show N * 8 ≤ 536870912; omega) c1 c2 hR.1 fun H1 cA e1 z1 o1 hAr hNm => ?_
  have hA9 : cA = zA X 1 := Option.some.inj (hNm.symm.trans ((zKs hG hW).2 1 _ (zTys_at X (k := 1) (by decide))).2)
  subst hA9
  rw [c3, c4]
  have r1 := hR.1
  refine kk p ev s m args below meth c H1 locs ls E (hR.new _ (show va_at (zD X) vwCl (h.2.1, zJ X N (fun _ => 0)) H1 from ?_) (by omega) (fun q hq => o1 q (by omega)) hlim) (by show _ ≤ h.2.1 + 1; omega) (by show _ ≤ h.2.2 + N; omega) hlo hl
  show H1[h.2.1]? = some (vp_cell _ _)
  rw [e1]
  rfl
theorem z_newY {n : Int32} (N : Nat) {p0 nx t : Nat} {lv : Int32} (hf : zlk (zFt M) pc = some (p0, .newarray .byte, nx, lv, t)) (hN : n.toInt = (N : Int)) (hb9 : N ≤ 10000) (hlim : zLim X (znew h (zY X N (fun _ => 0)) N)) (kk : Z X M f (znew h (zY X N (fun _ => 0)) N) nx L (.ref h.2.1 :: st) Q) : Z X M f h pc L (.int n :: st) Q := by
  intro p ev s m args below meth c H locs ls E hR hn hk0 hlo hl
  obtain ⟨hG, hM, hx, hb, -, -, -, hown, hW, -⟩ := id E
  obtain ⟨d, rfl, -⟩ := zdn hM hf (n := 1) rfl
  obtain ⟨c1, c2, c3, c4⟩ := z_cells (c := 0) hlim hn hk0
  have hneg : ¬ n < 0 := by rw [i_lt]; show ¬ n.toInt < 0; omega
  have hcl : n.toNatClampNeg = N := by show n.toInt.toNat = N; omega
  refine va_newaK (R := zRm X f) (atype := .byte) hx hb (zw hG hW zac2 rfl) rfl d rfl hneg hcl (by show N * 1 ≤ 536870912; omega) c1 c2 hR.1 fun H1 cA e1 z1 o1 hAr hNm => ?_
  have hA9 : cA = zA X 2 := Option.some.inj (hNm.symm.trans ((zKs hG hW).2 2 _ (zTys_at X (k := 2) (by decide))).2)
  subst hA9
  rw [c3, c4]
  have r1 := hR.1
  refine kk p ev s m args below meth c H1 locs ls E (hR.new _ (show va_at (zD X) vwCl (h.2.1, zY X N (fun _ => 0)) H1 from ?_) (by omega) (fun q hq => o1 q (by omega)) hlim) (by show _ ≤ h.2.1 + 1; omega) (by show _ ≤ h.2.2 + N; omega) hlo hl
  show H1[h.2.1]? = some (vp_cell _ _)
  rw [e1]
  rfl
theorem z_newZ {n : Int32} (N : Nat) {p0 nx t : Nat} {lv : Int32} (hf : zlk (zFt M) pc = some (p0, .newarray .boolean, nx, lv, t)) (hN : n.toInt = (N : Int)) (hb9 : N ≤ 10000) (hlim : zLim X (znew h (zZ X N (fun _ => 0)) N)) (kk : Z X M f (znew h (zZ X N (fun _ => 0)) N) nx L (.ref h.2.1 :: st) Q) : Z X M f h pc L (.int n :: st) Q := by
  intro p ev s m args below meth c H locs ls E hR hn hk0 hlo hl
  obtain ⟨hG, hM, hx, hb, -, -, -, hown, hW, -⟩ := id E
  obtain ⟨d, rfl, -⟩ := zdn hM hf (n := 1) rfl
  obtain ⟨c1, c2, c3, c4⟩ := z_cells (c := 0) hlim hn hk0
  have hneg : ¬ n < 0 := by rw [i_lt]; show ¬ n.toInt < 0; omega
  have hcl : n.toNatClampNeg = N := by show n.toInt.toNat = N; omega
  refine va_newaK (R := zRm X f) (atype := .boolean) hx hb (zw hG hW zac3 rfl) rfl d rfl hneg hcl (by show N * 1 ≤ 536870912; omega) c1 c2 hR.1 fun H1 cA e1 z1 o1 hAr hNm => ?_
  have hA9 : cA = zA X 3 := Option.some.inj (hNm.symm.trans ((zKs hG hW).2 3 _ (zTys_at X (k := 3) (by decide))).2)
  subst hA9
  rw [c3, c4]
  have r1 := hR.1
  refine kk p ev s m args below meth c H1 locs ls E (hR.new _ (show va_at (zD X) vwCl (h.2.1, zZ X N (fun _ => 0)) H1 from ?_) (by omega) (fun q hq => o1 q (by omega)) hlim) (by show _ ≤ h.2.1 + 1; omega) (by show _ ≤ h.2.2 + N; omega) hlo hl
  show H1[h.2.1]? = some (vp_cell _ _)
  rw [e1]
  rfl
theorem z_newO {n : Int32} (N : Nat) {p0 idx nx t : Nat} {lv : Int32} (hf : zlk (zFt M) pc = some (p0, .anewarray idx, nx, lv, t)) (hr : zKL[t]? = some ((zNm M).cls, idx, "java/lang/Object")) (hN : n.toInt = (N : Int)) (hb9 : N ≤ 10000) (hlim : zLim X (znew h (zOb X N (fun _ => none)) N)) (kk : Z X M f (znew h (zOb X N (fun _ => none)) N) nx L (.ref h.2.1 :: st) Q) : Z X M f h pc L (.int n :: st) Q := by
  intro p ev s m args below meth c H locs ls E hR hn hk0 hlo hl
  obtain ⟨hG, hM, hx, hb, -, -, -, hown, hW, -⟩ := id E
  obtain ⟨d, rfl, -⟩ := zdn hM hf (n := 2) rfl
  obtain ⟨c1, c2, c3, c4⟩ := z_cells (c := 0) hlim hn hk0
  have hneg : ¬ n < 0 := by rw [i_lt]; show ¬ n.toInt < 0; omega
  have hcl : n.toNatClampNeg = N := by show n.toInt.toNat = N; omega
  subst hcl
  have hov : va_AO "java/lang/Object" s := va_AO.moved hW.alike (va_AO.of (hG.1 _ zao4))
  refine W.anew (R := zRm X f) hx hb hown (zw hG hW (zKL_in hr) rfl) (va_AO.use hov) rfl d rfl hneg (by omega) c1 c2 fun cA kA comp f1 f2 f3 f4 => ?_
  generalize hH1 : H.push ({ cls := cA, slots := Array.replicate n.toNatClampNeg .null, vm := .none } : Cell) = H1
  have z1 : H1.size = H.size + 1 := by rw [← hH1, Array.size_push]
  have e1 : H1[H.size]? = some (arrV cA n.toNatClampNeg (fun _ => .null)) := by rw [← hH1, Array.getElem?_push_size, ← arrV_new]
  have o1 : ∀ q : Nat, q < H.size → H1[q]? = H[q]? := fun q hq => by rw [← hH1, Array.getElem?_push, if_neg (Nat.ne_of_lt hq)]
  obtain ⟨kA2, comp2, k1, k2, k3, k4⟩ := ((zKs hG hW).2 4 _ (zTys_at X (k := 4) (by decide))).2
  have hA9 : cA = zA X 4 := Option.some.inj (f1.symm.trans k4)
  subst hA9
  rw [c3, c4, hR.1]
  have r1 := hR.1
  refine kk p ev s m args below meth c H1 locs ls E (hR.new _ (show va_at (zD X) vwCl (h.2.1, zOb X _ (fun _ => none)) H1 from ?_) (by omega) (fun q hq => o1 q (by omega)) hlim) (by show _ ≤ h.2.1 + 1; omega) (by show _ ≤ h.2.2 + _; omega) hlo hl
  show H1[h.2.1]? = some (vp_cell _ _)
  rw [← r1, e1]
  rfl
theorem z_newB {n : Int32} (N : Nat) {p0 idx nx t : Nat} {lv : Int32} (hf : zlk (zFt M) pc = some (p0, .anewarray idx, nx, lv, t)) (hr : zKL[t]? = some ((zNm M).cls, idx, "ShadowWard$Block")) (hN : n.toInt = (N : Int)) (hb9 : N ≤ 10000) (hlim : zLim X (znew h (zBk X N (fun _ => none)) N)) (kk : Z X M f (znew h (zBk X N (fun _ => none)) N) nx L (.ref h.2.1 :: st) Q) : Z X M f h pc L (.int n :: st) Q := by
  intro p ev s m args below meth c H locs ls E hR hn hk0 hlo hl
  obtain ⟨hG, hM, hx, hb, -, -, -, hown, hW, -⟩ := id E
  obtain ⟨d, rfl, -⟩ := zdn hM hf (n := 2) rfl
  obtain ⟨c1, c2, c3, c4⟩ := z_cells (c := 0) hlim hn hk0
  have hneg : ¬ n < 0 := by rw [i_lt]; show ¬ n.toInt < 0; omega
  have hcl : n.toNatClampNeg = N := by show n.toInt.toNat = N; omega
  subst hcl
  have hov : va_AO "ShadowWard$Block" s := va_AO.moved hW.alike (va_AO.of (hG.1 _ zao5))
  refine W.anew (R := zRm X f) hx hb hown (zw hG hW (zKL_in hr) rfl) (va_AO.use hov) rfl d rfl hneg (by omega) c1 c2 fun cA kA comp f1 f2 f3 f4 => ?_
  generalize hH1 : H.push ({ cls := cA, slots := Array.replicate n.toNatClampNeg .null, vm := .none } : Cell) = H1
  have z1 : H1.size = H.size + 1 := by rw [← hH1, Array.size_push]
  have e1 : H1[H.size]? = some (arrV cA n.toNatClampNeg (fun _ => .null)) := by rw [← hH1, Array.getElem?_push_size, ← arrV_new]
  have o1 : ∀ q : Nat, q < H.size → H1[q]? = H[q]? := fun q hq => by rw [← hH1, Array.getElem?_push, if_neg (Nat.ne_of_lt hq)]
  obtain ⟨kA2, comp2, k1, k2, k3, k4⟩ := ((zKs hG hW).2 5 _ (zTys_at X (k := 5) (by decide))).2
  have hA9 : cA = zA X 5 := Option.some.inj (f1.symm.trans k4)
  subst hA9
  rw [c3, c4, hR.1]
  have r1 := hR.1
  refine kk p ev s m args below meth c H1 locs ls E (hR.new _ (show va_at (zD X) vwCl (h.2.1, zBk X _ (fun _ => none)) H1 from ?_) (by omega) (fun q hq => o1 q (by omega)) hlim) (by show _ ≤ h.2.1 + 1; omega) (by show _ ≤ h.2.2 + _; omega) hlo hl
  show H1[h.2.1]? = some (vp_cell _ _)
  rw [← r1, e1]
  rfl
/-- a switch's road, out of the table or in it -/
theorem z_swO {dflt lo hi : Int} {offs : Array Int} {x : Int32} {p0 nx t : Nat} {lv : Int32} (tgt : Nat) (hf : zlk (zFt M) pc = some (p0, .tableswitch dflt lo hi offs, nx, lv, t)) (hx9 : x.toInt < lo ∨ hi < x.toInt) (ht : (pc : Int) + dflt = (tgt : Int)) (kk : Z X M f h tgt L st Q) : Z X M f h pc L (.int x :: st) Q := by
  intro p ev s m args below meth c H locs ls E hR hn hk0 hlo hl
  obtain ⟨hG, hM, hx, hb, -, -, -, hown, hW, -⟩ := id E
  obtain ⟨d, -, -⟩ := zdc hM hf
  exact lv_tableOut hx hb d hx9 ht (kk p ev s m args below meth c H locs ls E hR hn hk0 hlo hl)
theorem z_swI {dflt lo hi off : Int} {offs : Array Int} {x : Int32} {p0 nx t : Nat} {lv : Int32} (tgt : Nat) (z : Int) (hf : zlk (zFt M) pc = some (p0, .tableswitch dflt lo hi offs, nx, lv, t)) (hx9 : x.toInt = z) (h1 : ¬ z < lo) (h2 : ¬ hi < z) (ho : offs[(z - lo).toNat]? = some off) (ht : (pc : Int) + off = (tgt : Int)) (kk : Z X M f h tgt L st Q) : Z X M f h pc L (.int x :: st) Q := by
  intro p ev s m args below meth c H locs ls E hR hn hk0 hlo hl
  obtain ⟨hG, hM, hx, hb, -, -, -, hown, hW, -⟩ := id E
  obtain ⟨d, -, -⟩ := zdc hM hf
  subst hx9
  exact lv_tableIn hx hb d h1 h2 ho ht (kk p ev s m args below meth c H locs ls E hR hn hk0 hlo hl)
theorem z_ldc {v : Int32} {p0 idx nx t : Nat} {lv : Int32} (hf : zlk (zFt M) pc = some (p0, .ldc idx, nx, lv, t)) (hc : Jvm.Cond.constant (zNm M).cls idx v ∈ lw_tbl) (kk : Z X M f h nx L (.int v :: st) Q) : Z X M f h pc L st Q := by
  intro p ev s m args below meth c H locs ls E hR hn hk0 hlo hl
  obtain ⟨hG, hM, hx, hb, -, -, -, hown, hW, -⟩ := id E
  obtain ⟨d, rfl, -⟩ := zdn hM hf (n := 1) rfl
  exact lv_ldc hx hb hown (zw hG hW hc rfl) d (kk p ev s m args below meth c H locs ls E hR hn hk0 hlo hl)
theorem z_ldc2 {v : Int64} {p0 idx nx t : Nat} {lv : Int32} (hf : zlk (zFt M) pc = some (p0, .ldc2_w idx, nx, lv, t)) (hc : Jvm.Cond.constantLong (zNm M).cls idx v ∈ lw_tbl) (kk : Z X M f h nx L (.long v :: st) Q) : Z X M f h pc L st Q := by
  intro p ev s m args below meth c H locs ls E hR hn hk0 hlo hl
  obtain ⟨hG, hM, hx, hb, -, -, -, hown, hW, -⟩ := id E
  obtain ⟨d, rfl, -⟩ := zdn hM hf (n := 2) rfl
  exact lv_ldc2 hx hb hown (zw hG hW hc rfl) d (kk p ev s m args below meth c H locs ls E hR hn hk0 hlo hl)
/-- System.arraycopy within int rows -/
theorem z_cpI {a0 a n0 n1 : Nat} {g0 g1 : Nat → Int32} {sp dp n : Int32} {p0 idx nx t : Nat} {lv : Int32} (sp9 dp9 n9 : Nat) (h0 : h.1 a0 = some (zI X n0 g0)) (h1 : h.1 a = some (zI X n1 g1)) (hf : zlk (zFt M) pc = some (p0, .invokestatic idx, nx, lv, t)) (hr : zML[t]? = some ((zNm M).cls, idx, arraycopyName)) (es : sp.toInt = (sp9 : Int)) (ed : dp.toInt = (dp9 : Int)) (en : n.toInt = (n9 : Int)) (hs : sp9 + n9 ≤ n0) (hd : dp9 + n9 ≤ n1) (hfr : Nat.ble 1 f.1 = true) (hlc : Nat.ble 40 f.2.1 = true) (hw : Nat.ble (zcat st) 8 = true)
    (kk : Z X M f (zset h a (zI X n1 (va_cpy g0 g1 sp9 dp9 n9))) nx L st Q) : Z X M f h pc L (.int n :: .int dp :: .ref a :: .int sp :: .ref a0 :: st) Q := by
  intro p ev s m args below meth c H locs ls E hR hn hk0 hlo hl T hT X9
  obtain ⟨hG, hM, hx, hb, -, -, hml, hown, hW, -⟩ := id E
  obtain ⟨d, rfl, -⟩ := zdn hM hf (n := 2) rfl
  have hK := zKs hG hW
  have hc0 : H[a0]? = some (vp_cell (zA X 0) (n0, .inl g0)) := z_at hR h0
  have hc1 : H[a]? = some (vp_cell (zA X 0) (n1, .inl g1)) := z_at hR h1
  have ht := zTys_at X (k := 0) (by decide)
  obtain ⟨-, k0, hk9, cm0, hkk0⟩ := (hK.2 0 _ ht).1 n0 (fun j => .int (g0 j))
  have s9 : sp.toNatClampNeg = sp9 := by show sp.toInt.toNat = sp9; omega
  have d9 : dp.toNatClampNeg = dp9 := by show dp.toInt.toNat = dp9; omega
  have m9 : n.toNatClampNeg = n9 := by show n.toInt.toNat = n9; omega
  have hw9 := Nat.le_of_ble_eq_true hw
  unfold zcat at hw9
  have hlc9 : 40 ≤ f.2.1 := Nat.le_of_ble_eq_true hlc
  obtain ⟨vm', X', step⟩ := X9.arraycopy hx hown (zw hG hW (zML_in hr) rfl) (zw hG hW zcpN rfl) (zw hG hW zcpS rfl) (zw hG hW zcpI rfl) (src := a0) (dst := a) (cs := vp_cell (zA X 0) (n0, .inl g0)) (cd := vp_cell (zA X 0) (n1, .inl g1)) (srcPos := sp) (destPos := dp) (n := n) (by rw [hT]; exact hc0) (by rw [hT]; exact hc1)
    (fun _ h => by cases h) (fun _ h => by cases h) (fun h => by cases h) (fun h => by cases h) hk9 hk9 hkk0 hkk0 rfl (by rw [i_lt]; show ¬ sp.toInt < 0; omega) (by rw [i_lt]; show ¬ dp.toInt < 0; omega) (by rw [i_lt]; show ¬ n.toInt < 0; omega)
    (by show ¬ _ > ((arrV (zA X 0) n0 (fun j => .int (g0 j))).slots.size : Int); rw [arrV_size]; omega)
    (by show ¬ _ > ((arrV (zA X 0) n1 (fun j => .int (g1 j))).slots.size : Int); rw [arrV_size]; omega)
    (fun vm₁ _ i hi => by
      have e : (vp_cell (zA X 0) (n0, .inl g0)).slots.getD (sp.toNatClampNeg + i) .null = .int (g0 (sp.toNatClampNeg + i)) := by
        show (arrV (zA X 0) n0 (fun j => .int (g0 j))).slots.getD _ _ = _
        rw [Array.getD_eq_getD_getElem?, arrV_read _ _ (by omega)]
        rfl
      refine ⟨?_, ?_⟩
      · rw [e]; rfl
      · rw [e]; exact trivial)
    (g := F0 m pc ls (.int n :: .int dp :: .ref a :: .int sp :: .ref a0 :: st)) rfl (by show ls.size = _; rw [hml]; obtain ⟨-, l, q1, -⟩ := hl; exact q1.1) (rest := st) rfl (by rw [hb]; exact d) (Nat.le_of_ble_eq_true hfr) (by show 2 * 0 + _ + _ ≤ f.2.1; have hw8 : nativeFrameWords "java/lang/System" "arraycopy" 5 + 11 ≤ 32 := (by decide); omega)
  have e1 : copied (vp_cell (zA X 0) (n0, .inl g0)) (vp_cell (zA X 0) (n1, .inl g1)) sp dp n = vp_cell (zA X 0) (n1, .inl (va_cpy g0 g1 sp9 dp9 n9)) := by
    have := va_copied (sp := sp.toNatClampNeg) (dp := dp.toNatClampNeg) (n := n.toNatClampNeg) (n1 := n1) (fun z => Value.int z) (zA X 0) (zA X 0) g0 g1 (by omega : sp.toNatClampNeg + n.toNatClampNeg ≤ n0)
    rw [s9, d9, m9] at this
    unfold copied
    rw [s9, d9, m9]
    exact this
  rw [e1] at X' step
  have hl9 : a < H.size := (Array.getElem?_eq_some_iff.mp hc1).1
  have hheap : ((T.setVm vm').setCell a (vp_cell (zA X 0) (n1, .inl (va_cpy g0 g1 sp9 dp9 n9)))).heap = H.setIfInBounds a (vp_cell (zA X 0) (n1, .inl (va_cpy g0 g1 sp9 dp9 n9))) := by rw [← hT]; rfl
  obtain ⟨t9, a1, b1⟩ := kk p ev s m args below meth c _ _ ls E (hR.put (H1 := H.setIfInBounds a (vp_cell (zA X 0) (n1, .inl (va_cpy g0 g1 sp9 dp9 n9)))) (z_bs hR h1) (show (H.setIfInBounds a _)[a]? = some _ by simp [Array.getElem?_setIfInBounds, hl9]) (by simp) (fun q hq => by simp [Array.getElem?_setIfInBounds, Ne.symm hq])) hn hk0 (fun q hq => by
      rcases List.mem_append.mp hq with h9 | h9
      · exact hlo q h9
      · obtain ⟨z, -, hz⟩ := List.mem_map.mp h9
        rw [← hz]
        exact z_bs hR h1) hl _ hheap X'
  exact ⟨t9, step t9 a1, b1⟩
end ZN
