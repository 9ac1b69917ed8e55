section ZKX
variable {s : State} {args : Array Value}
theorem zK_c (hts : ∀ w ∈ lw_tbl, w.before args s = true) (c : Nat) : ∃ v : ClassId × (Nat → Nat), c < 13 → u_Kn s (zcl c).1 (zcl c).2.1 (zcl c).2.2.1 v.1 v.2 := by
  by_cases hc : c < 13
  · have ok := (zcl_ok c hc).2.1
    match c, hc, ok with
    | 0, hc, ok =>
      obtain ⟨cC, iS, h⟩ := u_known (C := (zcl 0).1) (T := (zcl 0).2.1) (N := (zcl 0).2.2.1) (n := 3) hts ok (hts (.instantiable "java/util/ArrayList" 3) (z_in (List.mem_of_getElem? (i := 88) (by decide +kernel))))
      exact ⟨(cC, iS), fun _ => h⟩
    | 1, hc, ok =>
      obtain ⟨cC, iS, h⟩ := u_known (C := (zcl 1).1) (T := (zcl 1).2.1) (N := (zcl 1).2.2.1) (n := 13) hts ok (hts (.instantiable "ShadowWard$Block" 13) (z_in (List.mem_of_getElem? (i := 869) (by decide +kernel))))
      exact ⟨(cC, iS), fun _ => h⟩
    | 2, hc, ok =>
      obtain ⟨cC, iS, h⟩ := u_known (C := (zcl 2).1) (T := (zcl 2).2.1) (N := (zcl 2).2.2.1) (n := 3) hts ok (hts (.instantiable "ShadowWard$Frame" 3) (z_in (List.mem_of_getElem? (i := 689) (by decide +kernel))))
      exact ⟨(cC, iS), fun _ => h⟩
    | 3, hc, ok =>
      obtain ⟨cC, iS, h⟩ := u_known (C := (zcl 3).1) (T := (zcl 3).2.1) (N := (zcl 3).2.2.1) (n := 2) hts ok (hts (.instantiable "ShadowWard$Frames" 2) (z_in (List.mem_of_getElem? (i := 123) (by decide +kernel))))
      exact ⟨(cC, iS), fun _ => h⟩
    | 4, hc, ok =>
      obtain ⟨cC, iS, h⟩ := u_known (C := (zcl 4).1) (T := (zcl 4).2.1) (N := (zcl 4).2.2.1) (n := 2) hts ok (hts (.instantiable "ShadowWard$Globals" 2) (z_in (List.mem_of_getElem? (i := 82) (by decide +kernel))))
      exact ⟨(cC, iS), fun _ => h⟩
    | 5, hc, ok =>
      obtain ⟨cC, iS, h⟩ := u_known (C := (zcl 5).1) (T := (zcl 5).2.1) (N := (zcl 5).2.2.1) (n := 8) hts ok (hts (.instantiable "ShadowWard$Heap" 8) (z_in (List.mem_of_getElem? (i := 140) (by decide +kernel))))
      exact ⟨(cC, iS), fun _ => h⟩
    | 6, hc, ok =>
      obtain ⟨cC, iS, h⟩ := u_known (C := (zcl 6).1) (T := (zcl 6).2.1) (N := (zcl 6).2.2.1) (n := 5) hts ok (hts (.instantiable "ShadowWard$LostSearch" 5) (z_in (List.mem_of_getElem? (i := 183) (by decide +kernel))))
      exact ⟨(cC, iS), fun _ => h⟩
    | 7, hc, ok =>
      obtain ⟨cC, iS, h⟩ := u_known (C := (zcl 7).1) (T := (zcl 7).2.1) (N := (zcl 7).2.2.1) (n := 5) hts ok (hts (.instantiable "ShadowWard$Memory" 5) (z_in (List.mem_of_getElem? (i := 38) (by decide +kernel))))
      exact ⟨(cC, iS), fun _ => h⟩
    | 8, hc, ok =>
      obtain ⟨cC, iS, h⟩ := u_known (C := (zcl 8).1) (T := (zcl 8).2.1) (N := (zcl 8).2.2.1) (n := 7) hts ok (hts (.instantiable "ShadowWard$Region" 7) (z_in (List.mem_of_getElem? (i := 609) (by decide +kernel))))
      exact ⟨(cC, iS), fun _ => h⟩
    | 9, hc, ok =>
      obtain ⟨cC, iS, h⟩ := u_known (C := (zcl 9).1) (T := (zcl 9).2.1) (N := (zcl 9).2.2.1) (n := 10) hts ok (hts (.instantiable "ShadowWard$Report" 10) (z_in (List.mem_of_getElem? (i := 322) (by decide +kernel))))
      exact ⟨(cC, iS), fun _ => h⟩
    | 10, hc, ok =>
      obtain ⟨cC, iS, h⟩ := u_known (C := (zcl 10).1) (T := (zcl 10).2.1) (N := (zcl 10).2.2.1) (n := 8) hts ok (hts (.instantiable "ShadowWard$Variable" 8) (z_in (List.mem_of_getElem? (i := 716) (by decide +kernel))))
      exact ⟨(cC, iS), fun _ => h⟩
    | 11, hc, ok =>
      obtain ⟨cC, iS, h⟩ := u_known (C := (zcl 11).1) (T := (zcl 11).2.1) (N := (zcl 11).2.2.1) (n := 6) hts ok (hts (.instantiable "ShadowWard" 6) (z_in (List.mem_of_getElem? (i := 30) (by decide +kernel))))
      exact ⟨(cC, iS), fun _ => h⟩
    | 12, hc, ok =>
      obtain ⟨cC, iS, h⟩ := u_known (C := (zcl 12).1) (T := (zcl 12).2.1) (N := (zcl 12).2.2.1) (n := 30) hts ok (hts (.instantiable "ShadowWardModel" 30) (z_in (List.mem_of_getElem? (i := 1063) (by decide +kernel))))
      exact ⟨(cC, iS), fun _ => h⟩
    | n + 13, hc, _ => exact absurd hc (by omega)
  · exact ⟨(0, fun _ => 0), fun h => absurd h hc⟩
theorem zA_p {ty : FieldType} (h : (Jvm.Cond.arrayClass ty).before args s = true) : ∃ cA, ArrOfT s cA ty ∧ s.vm.findClass ("[" ++ ty.toString) = some cA := by
  obtain ⟨cA, kA, comp, h1, h2, h3⟩ := Cond.arrayClass_spec h
  exact ⟨cA, fun n z => ⟨(fun k h => (by cases h)), kA, h2, comp, h3⟩, h1⟩
theorem zA_o {C : String} (h : (Jvm.Cond.arrayOver (.object C)).before args s = true) : ∃ cA, ArrOfT s cA (.object C) ∧ va_RA s cA (.object C) := by
  obtain ⟨comp, cA, kA, h1, -, h2, h3, h4⟩ := Cond.arrayOver_spec h
  exact ⟨cA, fun n z => ⟨(fun k h => (by cases h)), kA, h2, comp, h3⟩, kA, comp, h2, h3, h1, h4⟩
theorem zK_ex (hts : ∀ w ∈ lw_tbl, w.before args s = true) : ∃ (Dg : va_G) (A : Nat → ClassId), va_K Dg vwCl ((List.range 6).map (fun k => (A k, zTy k))) s := by
  obtain ⟨a0, p0, q0⟩ := zA_p (ty := .int) (hts _ (z_in (List.mem_of_getElem? (i := 80) (by decide +kernel))))
  obtain ⟨a1, p1, q1⟩ := zA_p (ty := .long) (hts _ (z_in (List.mem_of_getElem? (i := 1387) (by decide +kernel))))
  obtain ⟨a2, p2, q2⟩ := zA_p (ty := .byte) (hts _ (z_in (List.mem_of_getElem? (i := 512) (by decide +kernel))))
  obtain ⟨a3, p3, q3⟩ := zA_p (ty := .boolean) (hts _ (z_in (List.mem_of_getElem? (i := 1159) (by decide +kernel))))
  obtain ⟨a4, p4, q4⟩ := zA_o (C := "java/lang/Object") (hts _ (z_in (List.mem_of_getElem? (i := 417) (by decide +kernel))))
  obtain ⟨a5, p5, q5⟩ := zA_o (C := "ShadowWard$Block") (hts _ (z_in (List.mem_of_getElem? (i := 148) (by decide +kernel))))
  refine ⟨(fun c => (Classical.choose (zK_c hts c)).1, fun c => (Classical.choose (zK_c hts c)).2), fun k => match k with
    | 0 => a0
    | 1 => a1
    | 2 => a2
    | 3 => a3
    | 4 => a4
    | _ => a5, fun c q hq => ?_, fun k q hq => ?_⟩
  · have hc : c < 13 := (List.getElem?_eq_some_iff.mp hq).1
    have e := (zcl_ok c hc).1
    rw [hq] at e
    cases e
    exact Classical.choose_spec (zK_c hts c) hc
  · match k, hq with
    | 0, hq => cases hq; exact ⟨p0, q0⟩
    | 1, hq => cases hq; exact ⟨p1, q1⟩
    | 2, hq => cases hq; exact ⟨p2, q2⟩
    | 3, hq => cases hq; exact ⟨p3, q3⟩
    | 4, hq => cases hq; exact ⟨p4, q4⟩
    | 5, hq => cases hq; exact ⟨p5, q5⟩
    | n + 6, hq => simp at hq
end ZKX
def lw_P (b : Addr) (xs : List Int32) (args : Array Value) (s : State) : Prop := args = #[.ref b] ∧ s.IntsAt b xs ∧ xs.length ≤ 2562 ∧ (Jvm.Cond.and given_1 narrow_1).before args s = true
def lw_Q (_ : Array Value) (s : State) (o : Outcome) (t : State) : Prop := o = .returned (some (.int 1)) ∧ Framed s o t [] 601024 7293000
theorem zEnd_Q {X : zCx} {a : Array Value} {o : Outcome} {t : State} (h : zEnd X (zB X) 0 (zs X) o t (fun r _ => r = .inl (some (.int 1)))) : lw_Q a (zs X) o t := by
  obtain ⟨r, h', ho, rfl, hR, n1, n2, hW, Lc, hsame, hlocs⟩ := h
  have ho : o = .returned (some (.int 1)) := ho
  obtain ⟨l1, l2⟩ := hR.2.2.2.2
  obtain ⟨s1, s2, s3, s4, s5, s6⟩ := hsame
  refine ⟨ho, ⟨_, ho⟩, hW, s1, s2, by have : zB X = (zs X).heap.size := rfl; omega, s4, by omega, fun a c hc => ?_⟩
  obtain ⟨c', d1, d2, d3, d4⟩ := s6 a c hc
  refine ⟨c', d1, d2, d3, fun i _ => d4 i (fun hm => ?_)⟩
  have g1 : zB X ≤ a := hlocs _ hm
  have g2 : a < (zs X).heap.size := (Array.getElem?_eq_some_iff.mp hc).1
  exact absurd (Nat.lt_of_lt_of_le g2 g1) (Nat.lt_irrefl _)
theorem zRm_1 (X : zCx) : zRm X (14, 532, zB X, 0) = room_1 := by
  unfold zRm room_1
  rw [show zB X + 601024 - (14, 532, zB X, 0).2.2.1 = 601024 from by show zB X + 601024 - zB X = 601024; omega]
  rfl
set_option maxHeartbeats 4000000 in
theorem lw_walk (l : Launch) (hlt : l.stackTraces = false) (b : Addr) (xs : List Int32) : MetFree l x (headSpec (Jvm.Cond.code x code maxLocals ret :: tables_1) room_1) (lw_P b xs) (fun _ _ _ _ _ => True) lw_Q := by
  refine MetFree.of_bodyS (code := code) (maxLocals := maxLocals) (ret := ret) (by decide) ?_ ?_
  · intro args s m h hn
    obtain ⟨meth, c, h1, h2, h3, h4, h5, h6, -, -⟩ := Cond.code_spec hn (atoms_spec (ws := Jvm.Cond.code x code maxLocals ret :: tables_1) h _ List.mem_cons_self)
    exact ⟨meth, c, h1, h2, h3, h4, h5, h6⟩
  · intro p e s m args below meth c s₁ B hml0 hP _
    obtain ⟨rfl, hx, hbd, hgv⟩ := hP
    obtain ⟨scr, harrAt, hlist, hof, hsmall⟩ := hx
    obtain ⟨hcb, hkn, -, -⟩ := State.arrayAt?_spec harrAt
    have hown := findClass_of_methodNamed B.named
    have hts0 : ∀ c ∈ (Jvm.Cond.code x code maxLocals ret :: tables_1), c.before #[Value.ref b] s = true := atoms_spec (ws := Jvm.Cond.code x code maxLocals ret :: tables_1) B.pre
    have hts : ∀ w ∈ lw_tbl, w.before #[Value.ref b] s = true := k2_hts_sels lw_privs (fun w hw => hts0 w (List.mem_cons_of_mem _ hw)) lw_privs_ok
    have hml : c.maxLocals = 8 := B.maxLocals_eq (hts0 _ List.mem_cons_self)
    have X₀ : Stand p l e room_1 s m #[Value.ref b] below meth c s₁ [] 0 0 := Stand.of_body B
    have hh0 : s₁.heap = s.heap := by rw [B.state]; rfl
    have hsz : scr.slots.size = xs.length := by rw [← Array.length_toList, hlist, List.length_map]
    have hval : ∀ j : Nat, j < xs.length → scr.slots[j]? = some (.int (xs.getD j 0)) := fun j hj => by
      rw [← Array.getElem?_toList, hlist]
      simp [hj]
    have hbl : b < s.heap.size := (Array.getElem?_eq_some_iff.mp hcb).1
    have hX : va_X b xs.length (fun j => xs.getD j 0) s s.heap := ⟨scr, hcb, hof, hkn, hsz, hval⟩
    obtain ⟨Dg, A, hK⟩ := zK_ex hts
    obtain ⟨meth9, c9, g1, g2, -, -, -, -, g7, -⟩ := Cond.code_spec B.named (hts0 _ List.mem_cons_self)
    have e2 : meth9 = meth := Option.some.inj (g1.symm.trans B.method)
    subst e2
    have e3 : c9 = c := Option.some.inj (g2.symm.trans (Stand.of_body B).code)
    subst e3
    have h09 : c9.exceptionTable.size = 0 := by simpa [Array.isEmpty] using g7
    have h9 : c9.exceptionTable.toList = [] := List.eq_nil_of_length_eq_zero (by simpa using h09)
    have G : zG (l, s, #[Value.ref b], Dg, A) := ⟨hts, hK, hlt, hgv⟩
    have M := lw_main (X := (l, s, #[Value.ref b], Dg, A)) (b := b) (L := xs.length) (xs := fun j => xs.getD j 0) (Q := fun r _ => r = .inl (some (.int 1))) G ⟨hbl, hX⟩ hbd (fun _ => rfl)
    have hR : zR (l, s, #[Value.ref b], Dg, A) (fun _ => none, s.heap.size, 0) s.heap := ⟨rfl, Nat.le_refl _, fun _ _ => rfl, (fun a e he => (by cases he)), by show s.heap.size ≤ s.heap.size + 601024; omega, by show 0 ≤ 7293000; omega⟩
    have K := M p e s m #[Value.ref b] below _ _ s.heap [] _ ⟨G, OL_law, B.exec, B.bytes, B.returns, B.notSynchronized, hml, hown, State.WarmedH.refl s, rfl, (name_of_methodNamed B.named B.method).1, by rw [h9]; rfl⟩ hR (Nat.le_refl _) (Nat.le_refl _) (fun q hq => by cases hq) (zent_ls 8 [Value.ref b] (by show 1 ≤ 8; decide))
    rw [zRm_1, Nat.sub_self, Nat.sub_self, ← lg_entry_eq] at K
    obtain ⟨t, a1, o, b1, b2, b3⟩ := K s₁ hh0 X₀
    exact ⟨t, o, a1, b1, b2, zEnd_Q b3⟩
theorem lw_pre_spec {args : Array Value} {s : State} (h : (Jvm.Cond.and given_1 narrow_1).before args s = true) (hr : rest_1_c.before args s = true) : ∃ (b : Addr) (xs : List Int32), lw_P b xs args s := by
  have hs := flat_of_before _ h
  have hq := flat_of_before _ hr
  have hc : (Cond.count 1).before args s = true := hs _ (by decide +kernel)
  have harr : (Cond.arrayOf (.arg 0) .int).before args s = true := hs _ (by decide +kernel)
  have hle : (Cond.le (.length (.arg 0)) (.int 2562)).before args s = true := hs _ (by decide +kernel)
  have hlen : (Cond.isInt (.length (.arg 0))).before args s = true := hq _ (by decide +kernel)
  have hall : (Cond.all (.arg 0) (.isInt (.elem (.arg 0) (.index 0)))).before args s = true := hq _ (by decide +kernel)
  obtain ⟨b, xs, hb, hx⟩ := State.ints_of_pre rfl harr hlen hall
  have hsm : xs.length < 2 ^ 31 := hx.choose_spec.2.2.2
  have hev : (Term.length (.arg 0)).eval args s none [] s = some (.int xs.length.toInt32) := hx.length_eval hb
  have hv := Cond.le_ints hev (show (Term.int 2562).eval args s none [] s = some (.int 2562) from rfl)
  have hd : xs.length.toInt32 ≤ 2562 := by
    simpa [Cond.before, Cond.holds, hv] using hle
  have hN : xs.length ≤ 2562 := (Int32.ofNat_le_ofNat hsm (by decide)).mp (show Int32.ofNat xs.length ≤ Int32.ofNat 2562 from hd)
  exact ⟨b, xs, Cond.one_arg hc (show args[0]? = some (.ref b) from hb), hx, hN, h⟩
theorem lw_comes (l : Launch) (hlt : l.stackTraces = false) : Comes l x (Jvm.Cond.code x code maxLocals ret :: tables_1) room_1 (fun tb e args s => Calls_1 tb e args s ∧ rest_1 tb e args s ∧ Pre_1 tb e args s)
    (fun _ _ args s o t => lw_Q args s o t) := by
  intro p e ha hc hk s m args below hf hfit hheap happ hpre
  obtain ⟨b, xs, hP⟩ := lw_pre_spec hpre.2.2 hpre.2.1
  obtain ⟨k, o, h1, h2, h3, hQ⟩ := lw_walk l hlt b xs p e ha hc hk s m args below hf ((Spec.applies_iff_loose hf).mp happ).1 hP trivial
  exact ⟨k, o, h1, h2, h3, hQ⟩
theorem lw_frame {s t : State} {o : Outcome} {args : Array Value} (h : Framed s o t [] 601024 7293000) :
    Framed s o t (fieldLocs frame_1_writes args s ++ arrayLocs frame_1_arrays args s ++ staticLocs frame_1_statics s) 601024 7293000 := h
theorem lw_limb (L : Cond) (hL : ∀ (args : Array Value) (s t : State), L.after args s (.returned (some (.int 1))) t = true) :
    ArmFor flags0 classFile x code maxLocals ret World_1 tables_1 room_1 Calls_1 rest_1 Pre_1
      (fun tb e a s o t => postC L tb e a s o t ∧ Framed s o t (fieldLocs frame_1_writes a s ++ arrayLocs frame_1_arrays a s ++ staticLocs frame_1_statics s) 601024 7293000) := by
  intro l hfl _ _ p e ha hc hk s m args below hf hfit hheap happ hpre
  obtain ⟨k, o, h1, h2, h3, rfl, hF⟩ := lw_comes l (by unfold Launch.stackTraces; rw [hfl]; decide +kernel) p e ha hc hk s m args below hf hfit hheap happ hpre
  exact ⟨k, _, h1, h2, h3, hL args s _, lw_frame hF⟩
theorem i_vc : Claimed_1_1 ∧ Claimed_1_2 := ⟨lw_limb limb_1_1 (fun args s t => by simp [limb_1_1, Cond.after, Cond.holds, Cond.value]), lw_limb limb_1_2 (fun args s t => Cond.after_iff.mpr (by
  first | (rw [show limb_1_2 = Cond.eq .result (.int 1) from rfl, Cond.eq_ints (x := 1) (y := 1) rfl rfl]; simp; done) | (simp [limb_1_2, Cond.value, Term.eval]; done)))⟩
