/-! the empty array of ArrayList, rows of references copied, an array's class object -/
abbrev zAL : String := "java/util/ArrayList"
abbrev zDn : String := "DEFAULTCAPACITY_EMPTY_ELEMENTDATA"
abbrev zDd : String := "[Ljava/lang/Object;"
abbrev zgC : MethodName := ⟨"java/lang/Object", "getClass", "()Ljava/lang/Class;"⟩
def zDef (X : zCx) (t0 : Nat) : Prop := va_Z zAL zDn zDd (.ref t0) (fun q => zB X ≤ q) (zs X) (zs X).heap ∧ t0 < zB X ∧ ∃ cell : Cell, (zs X).heap[t0]? = some cell ∧ (zs X).isArrayOf cell (.object "java/lang/Object") ∧ cell.slots.size.toInt32 = 0
theorem zflat {X : zCx} (G : zG X) {w : Jvm.Cond} (h : w ∈ flatC (Jvm.Cond.and given_1 narrow_1)) : w.before (za X) (zs X) = true := flat_of_before _ G.2.2.2 w h
theorem zDef_ex {X : zCx} (G : zG X) : ∃ t0, zDef X t0 := by
  have h1 : (Jvm.Cond.arrayOf (.static zAL zDn zDd) (.object "java/lang/Object")).before (za X) (zs X) = true := zflat G (by decide +kernel)
  have h2 : (Jvm.Cond.eq (.length (.static zAL zDn zDd)) (.int 0)).before (za X) (zs X) = true := zflat G (by decide +kernel)
  have hl : (Jvm.Cond.laysStatic zAL zDn zDd).before (za X) (zs X) = true := G.1 _ (z_in (by decide +kernel))
  have hi : (Jvm.Cond.initialized zAL).before (za X) (zs X) = true := G.1 _ (z_in (by decide +kernel))
  obtain ⟨t, ht, cell, e1, e2, e3, e4, e5, e6, e7⟩ := va_Tof (N := 0) (f := fun _ => .null) (A := fun q => zB X ≤ q) (by decide) h1 (va_eqt h2) (fun j hj => absurd hj (by omega)) (fun a ha hb => by have : a < zB X := ha; omega)
  exact ⟨t, va_Zof hl hi ht (fun a ha hb => by have : a < zB X := ha; omega), (Array.getElem?_eq_some_iff.mp e1).1, cell, e1, e2, e5⟩
def zMi (X : zCx) (mi : Nat) : Prop := va_Mi zDd mi (zs X)
theorem zMi_ex {X : zCx} (G : zG X) : ∃ mi, zMi X mi := va_Mi.of (zflat G (w := .isRef (.mirror zDd)) (by decide +kernel))
theorem zgC_1 : Jvm.Cond.instanceMethod zgC ∈ lw_tbl := z_in (List.mem_of_getElem? (i := 394) (by decide +kernel))
theorem zgC_2 : Jvm.Cond.selects zDd zgC zgC ∈ lw_tbl := z_in (List.mem_of_getElem? (i := 1397) (by decide +kernel))
theorem zgC_3 : Jvm.Cond.declares zgC ∈ lw_tbl := z_in (List.mem_of_getElem? (i := 1398) (by decide +kernel))
theorem zgC_4 : Jvm.Cond.native zgC ∈ lw_tbl := z_in (List.mem_of_getElem? (i := 412) (by decide +kernel))
def zEl (h : zHp) (g : Nat → Option Nat) (lo n : Nat) : Prop := ∀ i, lo ≤ i → i < lo + n → ∀ y, g i = some y → ∃ ci fs, h.1 y = some (.inr (ci, fs)) ∧ zcast ci "java/lang/Object" = true
section ZQ
variable {X : zCx} {M : zMI} {f : zFr} {h : zHp} {pc : Nat} {L : zLo} {st : List Value} {Q : zRs → zHp → Prop}
theorem z_gets {t0 p0 idx nx t : Nat} {lv : Int32} (hD : zDef X t0) (hf : zlk (zFt M) pc = some (p0, .getstatic idx, nx, lv, t)) (hr : zFR[t]? = some ((zNm M).cls, idx, zAL, zDn, zDd)) (kk : Z X M f h nx L (.ref t0 :: st) Q) : Z X M f h pc L st Q := by
  intro p ev s m args below meth c H locs ls E hR hn hk0 hlo hl
  obtain ⟨hG, hM, hx, hb, -, -, -, hown, hW, -⟩ := id E
  obtain ⟨d, rfl, -⟩ := zdn hM hf (n := 2) rfl
  obtain ⟨cf, kf, fi, fd, a, cell, h1, h2, h3, h4, h5, h6, h7, h8⟩ := va_Z.moved hW.alike hD.1
  have ha : a < zB X := by
    have := h8
    omega
  exact W.gets hx hb hown (zw hG hW (zFR_in hr) rfl) h1 h2 h3 h4 (by rw [hR.2.2.1 a ha]; exact h5) (fun e => by rw [e] at h6; cases h6) h7 rfl d (kk p ev s m args below meth c H locs ls E hR hn hk0 hlo hl)
theorem z_alenD {t0 p0 nx t : Nat} {lv : Int32} (hD : zDef X t0) (hf : zlk (zFt M) pc = some (p0, .arraylength, nx, lv, t)) (kk : Z X M f h nx L (.int 0 :: st) Q) : Z X M f h pc L (.ref t0 :: st) Q := by
  intro p ev s m args below meth c H locs ls E hR hn hk0 hlo hl
  obtain ⟨hG, hM, hx, hb, -, -, -, hown, hW, -⟩ := id E
  obtain ⟨d, rfl, -⟩ := zdn hM hf (n := 0) rfl
  obtain ⟨-, ht, cell, e1, e2, e3⟩ := hD
  exact W.alen (n := 0) hx hb (by rw [hR.2.2.1 t0 ht]; exact e1) (State.isArrayOf_alike hW.alike e2) e3 rfl rfl d (kk p ev s m args below meth c H locs ls E hR hn hk0 hlo hl)
/-- getClass() of an array of objects -/
theorem z_getC {mi a n p0 idx nx t : Nat} {g : Nat → Option Nat} {lv : Int32} (hMi : zMi X mi) (hh : h.1 a = some (zOb X n g)) (hf : zlk (zFt M) pc = some (p0, .invokevirtual idx, nx, lv, t)) (hr : zML[t]? = some ((zNm M).cls, idx, zgC)) (hfr : Nat.ble 1 f.1 = true) (hlc : Nat.ble 30 f.2.1 = true) (hw : Nat.ble (zcat st) 8 = true) (kk : Z X M f h nx L (.ref mi :: st) Q) : Z X M f h pc L (.ref a :: st) Q := by
  intro p ev s m args below meth c H locs ls E hR hn hk0 hlo hl
  obtain ⟨hG, hM, hx, hb, -, -, hml, hown, hW, -⟩ := id E
  obtain ⟨d, rfl, -⟩ := zdn hM hf (n := 2) rfl
  have hcell : H[a]? = some (vp_cell (zA X 4) (n, .inr (.inr (.inr (.inr g))))) := z_at hR hh
  have hra := ((zKs hG hW).2 4 _ (zTys_at X (k := 4) (by decide))).2
  have hw9 := Nat.le_of_ble_eq_true hw
  unfold zcat at hw9
  have hlc9 : 30 ≤ f.2.1 := Nat.le_of_ble_eq_true hlc
  exact va_getC (C := zDd) hx hb (by rw [hml]; obtain ⟨-, l, q1, -⟩ := hl; exact q1.1.symm) hown (zw hG hW (zML_in hr) rfl) (va_Dc.use (va_Dc.moved hW.alike (va_Dc.of (hG.1 _ zgC_3)))) (zw hG hW zgC_2 rfl) (zw hG hW zgC_1 rfl) (zw hG hW zgC_4 rfl) (va_Mi.moved hW.alike hMi) ⟨_, hcell, rfl, va_nmO hra (by decide +kernel)⟩ (Nat.le_of_ble_eq_true hfr) (by show _ ≤ f.2.1; omega) d (kk p ev s m args below meth c H locs ls E hR hn hk0 hlo hl)
theorem z_ldcM {mi p0 idx nx t : Nat} {lv : Int32} (hMi : zMi X mi) (hf : zlk (zFt M) pc = some (p0, .ldc idx, nx, lv, t)) (hc : Jvm.Cond.classLink (zNm M).cls idx zDd ∈ lw_tbl) (kk : Z X M f h nx L (.ref mi :: st) Q) : Z X M f h pc L st Q := by
  intro p ev s m args below meth c H locs ls E hR hn hk0 hlo hl
  obtain ⟨hG, hM, hx, hb, -, -, hml, hown, hW, -⟩ := id E
  obtain ⟨d, rfl, -⟩ := zdn hM hf (n := 1) rfl
  exact va_ldcM hx hb hown (zw hG hW hc rfl) (va_Mi.moved hW.alike hMi) d (kk p ev s m args below meth c H locs ls E hR hn hk0 hlo hl)
/-- System.arraycopy within rows of objects -/
theorem z_cpO {a0 a n0 n1 : Nat} {g0 g1 : Nat → Option Nat} {sp dp n : Int32} {p0 idx nx t : Nat} {lv : Int32} (sp9 dp9 n9 : Nat) (h0 : h.1 a0 = some (zOb X n0 g0)) (h1 : h.1 a = some (zOb X n1 g1)) (hel : zEl h g0 sp9 n9) (hf : zlk (zFt M) pc = some (p0, .invokestatic idx, nx, lv, t)) (hr : zML[t]? = some ((zNm M).cls, idx, arraycopyName)) (es : sp.toInt = (sp9 : Int)) (ed : dp.toInt = (dp9 : Int)) (en : n.toInt = (n9 : Int)) (hs : sp9 + n9 ≤ n0) (hd : dp9 + n9 ≤ n1) (hfr : Nat.ble 1 f.1 = true) (hlc : Nat.ble 40 f.2.1 = true) (hw : Nat.ble (zcat st) 8 = true)
    (kk : Z X M f (zset h a (zOb X n1 (va_cpy g0 g1 sp9 dp9 n9))) nx L st Q) : Z X M f h pc L (.int n :: .int dp :: .ref a :: .int sp :: .ref a0 :: st) Q := by
  intro p ev s m args below meth c H locs ls E hR hn hk0 hlo hl T hT X9
  obtain ⟨hG, hM, hx, hb, -, -, hml, hown, hW, -⟩ := id E
  obtain ⟨d, rfl, -⟩ := zdn hM hf (n := 2) rfl
  have hK := zKs hG hW
  have hc0 : H[a0]? = some (vp_cell (zA X 4) (n0, .inr (.inr (.inr (.inr g0))))) := z_at hR h0
  have hc1 : H[a]? = some (vp_cell (zA X 4) (n1, .inr (.inr (.inr (.inr g1))))) := z_at hR h1
  have ht := zTys_at X (k := 4) (by decide)
  obtain ⟨-, k0, hk9, cm0, hkk0⟩ := (hK.2 4 _ ht).1 n0 (fun j => va_rf (g0 j))
  have s9 : sp.toNatClampNeg = sp9 := by show sp.toInt.toNat = sp9; omega
  have d9 : dp.toNatClampNeg = dp9 := by show dp.toInt.toNat = dp9; omega
  have m9 : n.toNatClampNeg = n9 := by show n.toInt.toNat = n9; omega
  have hw9 := Nat.le_of_ble_eq_true hw
  unfold zcat at hw9
  have hlc9 : 40 ≤ f.2.1 := Nat.le_of_ble_eq_true hlc
  obtain ⟨vm', X', step⟩ := X9.arraycopy hx hown (zw hG hW (zML_in hr) rfl) (zw hG hW zcpN rfl) (zw hG hW zcpS rfl) (zw hG hW zcpI rfl) (src := a0) (dst := a) (cs := vp_cell (zA X 4) (n0, .inr (.inr (.inr (.inr g0))))) (cd := vp_cell (zA X 4) (n1, .inr (.inr (.inr (.inr g1))))) (srcPos := sp) (destPos := dp) (n := n) (by rw [hT]; exact hc0) (by rw [hT]; exact hc1)
    (fun _ h => by cases h) (fun _ h => by cases h) (fun h => by cases h) (fun h => by cases h) hk9 hk9 hkk0 hkk0 rfl (by rw [i_lt]; show ¬ sp.toInt < 0; omega) (by rw [i_lt]; show ¬ dp.toInt < 0; omega) (by rw [i_lt]; show ¬ n.toInt < 0; omega)
    (by show ¬ _ > ((arrV (zA X 4) n0 (fun j => va_rf (g0 j))).slots.size : Int); rw [arrV_size]; omega)
    (by show ¬ _ > ((arrV (zA X 4) n1 (fun j => va_rf (g1 j))).slots.size : Int); rw [arrV_size]; omega)
    (fun vm₁ hal i hi => by
      have e : (vp_cell (zA X 4) (n0, .inr (.inr (.inr (.inr g0))))).slots.getD (sp.toNatClampNeg + i) .null = va_rf (g0 (sp.toNatClampNeg + i)) := by
        show (arrV (zA X 4) n0 (fun j => va_rf (g0 j))).slots.getD _ _ = _
        rw [Array.getD_eq_getD_getElem?, arrV_read _ _ (by omega)]
        rfl
      rw [e]
      cases hy : g0 (sp.toNatClampNeg + i) with
      | none => exact ⟨rfl, trivial⟩
      | some y =>
        obtain ⟨ci, fs, hyc, hcs⟩ := hel (sp.toNatClampNeg + i) (by omega) (by omega) y hy
        obtain ⟨r', hr', cellV, g9, g2, g3, -⟩ := z_at hR hyc
        obtain ⟨hcls, c3, c4, w1, w2, w3⟩ := zcast_ok (args := args) hG hW hcs
        have hc3 : c3 = (zD X).1 ci := Option.some.inj (w1.symm.trans hcls.1)
        subst hc3
        obtain ⟨kA, comp, r1, r2, r3, -⟩ := (hK.2 4 _ ht).2
        cases hk9.symm.trans r1
        cases hkk0.symm.trans r2
        have hc4 : c4 = _ := Option.some.inj (w2.symm.trans r3)
        subst hc4
        obtain ⟨kC, hkC, -⟩ := hcls.2
        obtain ⟨kE, hkE⟩ := Vm.classAt_of_findClass r3
        obtain ⟨kC', hkC', -⟩ := hal.2.2 _ _ hkC
        obtain ⟨kE', hkE', -⟩ := hal.2.2 _ _ hkE
        refine ⟨rfl, cellV, (show T.heap[y]? = some cellV by rw [hT]; exact g9), (fun q h => by rw [g3] at h; cases h), ⟨kC', by rw [g2]; exact hkC'⟩, ?_, ?_⟩
        · exact ⟨kE', hkE'⟩
        · show vm₁.assignable _ _ = true
          rw [hal.assignable, g2]
          exact w3)
    (g := F0 m pc ls (.int n :: .int dp :: .ref a :: .int sp :: .ref a0 :: st)) rfl (by show ls.size = _; rw [hml]; obtain ⟨-, l, q1, -⟩ := hl; exact q1.1) (rest := st) rfl (by rw [hb]; exact d) (Nat.le_of_ble_eq_true hfr) (by show 2 * 0 + _ + _ ≤ f.2.1; have hw8 : nativeFrameWords "java/lang/System" "arraycopy" 5 + 11 ≤ 32 := (by decide); omega)
  have e1 : copied (vp_cell (zA X 4) (n0, .inr (.inr (.inr (.inr g0))))) (vp_cell (zA X 4) (n1, .inr (.inr (.inr (.inr g1))))) sp dp n = vp_cell (zA X 4) (n1, .inr (.inr (.inr (.inr (va_cpy g0 g1 sp9 dp9 n9))))) := by
    have := va_copied (sp := sp.toNatClampNeg) (dp := dp.toNatClampNeg) (n := n.toNatClampNeg) (n1 := n1) (fun z => va_rf z) (zA X 4) (zA X 4) g0 g1 (by omega : sp.toNatClampNeg + n.toNatClampNeg ≤ n0)
    rw [s9, d9, m9] at this
    unfold copied
    rw [s9, d9, m9]
    exact this
  rw [e1] at X' step
  have hl9 : a < H.size := (Array.getElem?_eq_some_iff.mp hc1).1
  have hheap : ((T.setVm vm').setCell a (vp_cell (zA X 4) (n1, .inr (.inr (.inr (.inr (va_cpy g0 g1 sp9 dp9 n9))))))).heap = H.setIfInBounds a (vp_cell (zA X 4) (n1, .inr (.inr (.inr (.inr (va_cpy g0 g1 sp9 dp9 n9)))))) := by rw [← hT]; rfl
  obtain ⟨t9, a1, b1⟩ := kk p ev s m args below meth c _ _ ls E (hR.put (H1 := H.setIfInBounds a (vp_cell (zA X 4) (n1, .inr (.inr (.inr (.inr (va_cpy g0 g1 sp9 dp9 n9))))))) (z_bs hR h1) (show (H.setIfInBounds a _)[a]? = some _ by simp [Array.getElem?_setIfInBounds, hl9]) (by simp) (fun q hq => by simp [Array.getElem?_setIfInBounds, Ne.symm hq])) hn hk0 (fun q hq => by
      rcases List.mem_append.mp hq with h9 | h9
      · exact hlo q h9
      · obtain ⟨z, -, hz⟩ := List.mem_map.mp h9
        rw [← hz]
        exact z_bs hR h1) hl _ hheap X'
  exact ⟨t9, step t9 a1, b1⟩
end ZQ
