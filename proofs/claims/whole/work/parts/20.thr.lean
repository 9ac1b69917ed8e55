/-! exceptions: thrown anew, caught -/
abbrev zRE : List String := ["java/lang/RuntimeException", "java/lang/Exception"]
def zgd : Jvm.Cond → Bool
  | .declares _ => true
  | .castable _ _ => true
  | w => goodWord w
theorem zw2 {X : zCx} (G : zG X) {s : State} {args : Array Value} (hW : (zs X).WarmedH s.vm) {w : Jvm.Cond} (hm : w ∈ lw_tbl) (hg : zgd w = true) : w.before args s = true := by
  have h0 := G.1 w hm
  cases w with
  | declares x =>
    have h1 : (Jvm.Cond.declares x).before (za X) ((zs X).setVm s.vm) = true := by rw [Cond.declares_setVm hW.alike]; exact h0
    exact va_tabs (u := (zs X).setVm s.vm) rfl rfl h1
  | castable a b =>
    have h1 : (Jvm.Cond.castable a b).before (za X) ((zs X).setVm s.vm) = true := by rw [Cond.castable_setVm hW.alike]; exact h0
    exact va_tabs (u := (zs X).setVm s.vm) rfl rfl h1
  | _ => exact zw G hW hm hg
/-- the words of 'throw new E(text)' -/
def zthr (own : String) (ic : Nat) (E : String) : Bool := (vx_atS own ic E zRE).all (fun w => decide (w ∈ lw_tbl) && zgd w && vx_ot w)
theorem zthr_ok {own E : String} {ic : Nat} (h : zthr own ic E = true) {w : Jvm.Cond} (hw : w ∈ vx_atS own ic E zRE) : w ∈ lw_tbl ∧ zgd w = true ∧ vx_ot w = true := by
  have := List.all_eq_true.mp h w hw
  simp only [Bool.and_eq_true, decide_eq_true_eq] at this
  exact ⟨this.1.1, this.1.2, this.2⟩
theorem zst_str {X : zCx} (G : zG X) {own tx : String} {k : Nat} (h1 : Jvm.Cond.stringRef own k tx ∈ lw_tbl) (h2 : Jvm.Cond.exactly (.string own k) "java/lang/String" ∈ flatC (Jvm.Cond.and given_1 narrow_1)) : ∃ sa, vk_R own k tx sa (zs X) := by
  obtain ⟨a, c, cell, kk, e1, -⟩ := Cond.exactly_spec (zflat G h2)
  exact ⟨a, vk_R.of (A := za X) (G.1 _ h1) e1⟩
theorem zst_U {X : zCx} (G : zG X) : vx_Zq Bundle.tN "UNASSIGNED_STACK" Bundle.steD (fun q => zB X ≤ q) (zs X) (zs X).heap := vx_Zqof (G.1 _ (z_in (by decide +kernel))) (G.1 _ (z_in (by decide +kernel))) (zflat G (by decide +kernel)) (fun a ha hb => by have : a < zB X := ha; omega)
theorem zst_N {X : zCx} (G : zG X) : vx_Zq Bundle.tN "SUPPRESSED_SENTINEL" Bundle.listD (fun q => zB X ≤ q) (zs X) (zs X).heap := vx_Zqof (G.1 _ (z_in (by decide +kernel))) (G.1 _ (z_in (by decide +kernel))) (zflat G (by decide +kernel)) (fun a ha hb => by have : a < zB X := ha; omega)
section ZT9
variable {X : zCx} {M : zMI} {f : zFr} {h : zHp} {pc : Nat} {L : zLo} {Q : zRs → zHp → Prop}
set_option maxHeartbeats 1000000 in
theorem z_throw {E text : String} {ik is ic q0 n0 t0 q3 n3 t3 q4 n4 t4 q6 n6 t6 q9 n9 t9 sa : Nat} {v0 v3 v4 v6 v9 : Int32} (h0 : zlk (zFt M) pc = some (q0, .new ik, n0, v0, t0)) (h3 : zlk (zFt M) (pc + 3) = some (q3, .dup, n3, v3, t3)) (h4 : zlk (zFt M) (pc + 4) = some (q4, .ldc is, n4, v4, t4)) (h6 : zlk (zFt M) (pc + 6) = some (q6, .invokespecial ic, n6, v6, t6)) (h9 : zlk (zFt M) (pc + 9) = some (q9, .athrow, n9, v9, t9))
    (hhh : zHh M = []) (hkl : zKL[t0]? = some ((zNm M).cls, ik, E)) (hst : vk_R (zNm M).cls is text sa (zs X)) (hat : zthr (zNm M).cls ic E = true) (hini : Jvm.Cond.initialized E ∈ lw_tbl) (hfit : Bundle.fit E = true) (hfr : Nat.ble 6 f.1 = true) (hlc : Nat.ble 100 f.2.1 = true) (hlim : zLim X (zadd h 1 6)) (hq : Q (.inr E) (zadd h 1 6)) : Z X M f h pc L [] Q := by
  intro p ev s m args below meth c H locs ls E9 hR hn hk0 hlo hl T hT X9
  obtain ⟨hG, hM, hx, hb, -, hlk, hml, hown, hW, hsz0, -, htab⟩ := id E9
  obtain ⟨d0, -, -⟩ := zdn hM h0 (n := 2) rfl
  obtain ⟨d3, -, -⟩ := zdn hM h3 (n := 0) rfl
  obtain ⟨d4, -, -⟩ := zdn hM h4 (n := 1) rfl
  obtain ⟨d6, -, -⟩ := zdn hM h6 (n := 2) rfl
  obtain ⟨d9, -, -⟩ := zdn hM h9 (n := 0) rfl
  rw [hhh] at htab
  have htb0 : c.exceptionTable.toList = [] := List.map_eq_nil_iff.mp htab
  have l1 : h.2.1 + 1 ≤ zB X + 601024 := hlim.1
  have l2 : h.2.2 + 6 ≤ 7293000 := hlim.2
  have hf6 : 6 ≤ f.1 := Nat.le_of_ble_eq_true hfr
  have hl1 : 100 ≤ f.2.1 := Nat.le_of_ble_eq_true hlc
  have htr : ev.platform.stackTraces = false := (show ev.platform.stackTraces = (zl X).stackTraces by rw [X9.admits.platform]).trans hG.2.2.1
  have hls : ls.size = c.maxLocals := by rw [hml]; obtain ⟨-, l, q1, -⟩ := hl; exact q1.1
  have Y := vx_rebase X9 (R' := { frames := f.1, locals := f.2.1, cells := 1, slots := 6 }) (Nat.le_refl _) (Nat.le_refl _) (by show _ ≤ zB X + 601024 - f.2.2.1; dsimp only; omega) (by show _ ≤ 7293000 - f.2.2.2; dsimp only; omega)
  obtain ⟨s', hA⟩ : ∃ z, z = (T.setVm s.vm).setFrames (.invoking m args :: below) := ⟨_, rfl⟩
  rw [← hA] at Y
  have hvm : s'.vm = s.vm := by rw [hA]; rfl
  have hhp : s'.heap = H := by rw [hA]; exact hT
  have hWs' : (zs X).WarmedH s'.vm := by rw [hvm]; exact hW
  have hW0 : s.WarmedH s'.vm := by rw [hvm]; exact State.WarmedH.refl s
  have hkp : ∀ a : Nat, a < (zs X).heap.size → ¬ (fun q => zB X ≤ q) a → s'.heap[a]? = (zs X).heap[a]? := fun a ha _ => by rw [hhp]; exact hR.2.2.1 a ha
  have hU' := vx_Zq.moved hWs'.alike ((zst_U hG).kept hkp)
  have hN' := vx_Zq.moved hWs'.alike ((zst_N hG).kept hkp)
  have hh : ∀ w ∈ Bundle.ownAtoms (zNm M).cls ic E zRE, w.before args s' = true := vx_own (fun w hw => zw2 hG hWs' (zthr_ok hat hw).1 (zthr_ok hat hw).2.1) (vx_isRefq hU'.1) (vx_isRefq hN'.1) hU'.2.word hN'.2.word
  have hown' : s'.vm.findClass (zNm M).cls = some m.cls := by rw [hvm]; exact hown
  have hins : (Jvm.Cond.instantiable E 6).before args s' = true := hh _ (by simp [Bundle.ownAtoms])
  obtain ⟨vm₁, cX, kX, hfX, hkX, -, -, X₁, st1⟩ := Y.newCold hx (own := (zNm M).cls) (C := E) (index := ik) (n := 6) hown' (zw hG hWs' (zKL_in hkl) rfl) hins (zw hG hWs' hini rfl)
    (g := F0 m pc ls []) rfl (by rw [hb]; exact d0) (Nat.le_refl _) (Nat.le_refl _)
  generalize hT1 : (T.setVm vm₁).pushCell { cls := cX, slots := kX.instanceTypes.map defaultValue, vm := .none } = T1 at X₁ st1
  have hcat : (Value.ref T.heap.size).category = 1 := rfl
  have hcellA : T1.heap[T.heap.size]? = some (freshCell cX kX) := by rw [← hT1]; exact State.heap_pushCell_size _ _
  have d3' : decode c.code (pc + 3) = .ok (.dup, 1) := by rw [hb]; exact d3
  have d4' : decode c.code (pc + 4) = .ok (.ldc is, 2) := by rw [hb]; exact d4
  have hstr' : vk_R (zNm M).cls is text sa s' := vk_R.warm hWs' hst
  obtain ⟨U, hsteps, hrun, hend, hWU, hsame, ce, hce, hO⟩ := X₁.ctorThrowS hx htr (own := (zNm M).cls) (cls := E) (names := zRE) (ic := ic) hown' hfit (by decide +kernel) hh (fun x hx => nomatch hx) hfX hkX hcellA (by rw [hhp, hT]; exact Nat.le_refl _) (msg := .ref sa) rfl
    (g := { method := m, pc := pc + 6, locals := ls, stack := .ref sa :: .ref T.heap.size :: .ref T.heap.size :: [], locked := none }) rfl hls rfl rfl (rest := []) rfl
    (by rw [hb]; exact d6) (by rw [hb]; exact d9) (fun x hx => by rw [htb0] at hx; cases hx) (by show 2 + 3 < f.1; omega) (by show _ ≤ f.2.1; simp only [List.map_cons, List.map_nil, List.sum_cons, List.sum_nil, hcat, List.length_cons, List.length_nil]; simp [Value.category]; omega) hlk
  obtain ⟨f1, f2⟩ := vx_frame hsame
  rw [hhp] at f1 f2
  have hWs : s.WarmedH U.vm := State.WarmedH.trans hW0 hWU
  have hcl : (zs X).vm.findClass E = some ce.cls := by
    have h9 := hO.cls
    rw [hWs'.alike.findClass] at h9
    exact h9
  have hsz : U.heap.size = H.size + 1 := by
    have a1 : U.heap.size ≤ s'.heap.size + 1 := hsame.2.2.1
    rw [hhp] at a1
    have a2 := (Array.getElem?_eq_some_iff.mp hce).1
    rw [hT] at a2
    omega
  have hall : s.sameButNew ({ U with vm := s.vm } : State) locs ((zadd h 1 6).2.1 - f.2.2.1) ((zadd h 1 6).2.2 - f.2.2.2) := by
    subst hA
    obtain ⟨e1, e2⟩ := hsame
    rw [State.setFrames_setFrames] at e1
    have h2 : (T.setVm s.vm).sameButNew ({ U with vm := s.vm } : State) [] (0 + 1) (0 + 6) := ⟨e1, e2⟩
    have h3 := X9.same.trans h2
    rw [List.append_nil] at h3
    exact h3.mono (by show _ ≤ h.2.1 + 1 - f.2.2.1; omega) (by show _ ≤ h.2.2 + 6 - f.2.2.2; omega)
  refine ⟨U, ?_, .threw T.heap.size, hrun, hend, .inr E, zadd h 1 6, ⟨T.heap.size, ce, rfl, hce, hO.vm, hcl⟩, hq, hR.more 1 6 hsz (fun q hq9 => f2 q hq9 (fun z hz => nomatch hz)) hlim, by show _ ≤ h.2.1 + 1; omega, by show _ ≤ h.2.2 + 6; omega, hWs, locs, hall, hlo⟩
  refine st1 _ ?_
  show Steps p.tables ev below (T1.setTop { method := m, pc := pc + 3, locals := ls, stack := .ref T.heap.size :: [], locked := none }) _
  jvm_step X₁.here [X₁.here.top, hx, d3', Value.category]
  exact X₁.ldcString hx (own := (zNm M).cls) (text := text) (index := is) (a := sa) hown' hstr'.1 hstr'.2
    (g := { method := m, pc := pc + 4, locals := ls, stack := .ref T.heap.size :: .ref T.heap.size :: [], locked := none }) rfl d4' _ hsteps
end ZT9
theorem zsr_81 : Jvm.Cond.stringRef "ShadowWard" 81 "there is no frame" ∈ lw_tbl := z_in (List.mem_of_getElem? (i := 759) (by decide +kernel))
theorem zsx_81 : Jvm.Cond.exactly (.string "ShadowWard" 81) "java/lang/String" ∈ flatC (Jvm.Cond.and given_1 narrow_1) := by decide +kernel
theorem zsr_242 : Jvm.Cond.stringRef "ShadowWard" 242 "a number is not as it may be" ∈ lw_tbl := z_in (List.mem_of_getElem? (i := 486) (by decide +kernel))
theorem zsx_242 : Jvm.Cond.exactly (.string "ShadowWard" 242) "java/lang/String" ∈ flatC (Jvm.Cond.and given_1 narrow_1) := by decide +kernel
theorem zsr_247 : Jvm.Cond.stringRef "ShadowWard" 247 "there is no such thing" ∈ lw_tbl := z_in (List.mem_of_getElem? (i := 803) (by decide +kernel))
theorem zsx_247 : Jvm.Cond.exactly (.string "ShadowWard" 247) "java/lang/String" ∈ flatC (Jvm.Cond.and given_1 narrow_1) := by decide +kernel
theorem zth_A : zthr "ShadowWard" 244 "java/lang/IllegalArgumentException" = true := by decide +kernel
theorem zti_A : Jvm.Cond.initialized "java/lang/IllegalArgumentException" ∈ lw_tbl := z_in (List.mem_of_getElem? (i := 15) (by decide +kernel))
theorem zth_I : zthr "ShadowWard" 249 "java/lang/IndexOutOfBoundsException" = true := by decide +kernel
theorem zti_I : Jvm.Cond.initialized "java/lang/IndexOutOfBoundsException" ∈ lw_tbl := z_in (List.mem_of_getElem? (i := 25) (by decide +kernel))
theorem zth_S : zthr "ShadowWard" 83 "java/lang/IllegalStateException" = true := by decide +kernel
theorem zti_S : Jvm.Cond.initialized "java/lang/IllegalStateException" ∈ lw_tbl := z_in (List.mem_of_getElem? (i := 24) (by decide +kernel))
