theorem zLs.inc {ls : Array Slot} {nL : Nat} {L : zLo} (h : zLs ls nL L) {i : Nat} {v w : Value} (hv : zget L i = some v) (hc : w.category = 1) (hi : zin L i = true) : ∃ (l : List (Nat × Value)) (k : Nat), l[k]? = some (i, v) ∧ lv_has ls nL l ∧ i < nL ∧ ∀ ls', lv_has ls' nL ((i, w) :: l.filter (fun q => !(q.1 == i) && !(q.1 + 1 == i && q.2.category == 2))) → zLs ls' nL (zst1 L i w) := by
  obtain ⟨h0, l, h1, h2⟩ := h
  have hi' := zin_len.mp hi
  obtain ⟨k, hk⟩ := List.getElem?_of_mem (h2 i v hv)
  refine ⟨l, k, hk, h1, by omega, fun ls' h' => ⟨by unfold zst1; rw [zput_len, zkill_len]; exact h0, _, h', fun j u hj => ?_⟩⟩
  unfold zst1 at hj
  rw [zget_put] at hj
  split at hj
  · rename_i e
    cases hj
    rw [e.1]
    exact List.mem_cons_self
  · rename_i e
    obtain ⟨g1, g2⟩ := zkill_get hj
    have hne : j ≠ i := fun q => e ⟨q, by rw [zin_len, zkill_len]; omega⟩
    refine List.mem_cons_of_mem _ (List.mem_filter.mpr ⟨h2 j u g1, ?_⟩)
    by_cases q : j + 1 = i
    · have := g2 q
      simp [hne, this]
    · simp [hne, q]
section ZR1
variable {X : zCx} {M : zMI} {f : zFr} {h : zHp} {pc : Nat} {L : zLo} {st : List Value} {Q : zRs → zHp → Prop}
set_option maxHeartbeats 4000000 in
theorem z_stp {e : zEn} {pc' : Nat} {L' : zLo} {st' : List Value} (hf : zlk (zFt M) pc = some e) (hs : zstp e L st = some (pc', L', st')) (k : Z X M f h pc' L' st' Q) : Z X M f h pc L st Q := by
  intro p ev s m args below meth c H locs ls E hR hn hk hlo hl
  obtain ⟨p0, ins, nx, v, t⟩ := e
  obtain ⟨hG, hM, hx, hb, -⟩ := id E
  cases ins with
  | iconst n =>
    obtain ⟨d, rfl, lt⟩ := zdn hM hf (n := 0) rfl
    simp only [zstp] at hs
    simp only [Option.some.injEq, Prod.mk.injEq] at hs
    obtain ⟨rfl, rfl, rfl⟩ := hs
    exact lv_iconst hx hb d (of_decide_eq_true lt) (k p ev s m args below meth c H locs ls E hR hn hk hlo hl)
  | bipush n =>
    obtain ⟨d, rfl, lt⟩ := zdn hM hf (n := 1) rfl
    simp only [zstp] at hs
    simp only [Option.some.injEq, Prod.mk.injEq] at hs
    obtain ⟨rfl, rfl, rfl⟩ := hs
    exact lv_bipush hx hb d (of_decide_eq_true lt) (k p ev s m args below meth c H locs ls E hR hn hk hlo hl)
  | sipush n =>
    obtain ⟨d, rfl, lt⟩ := zdn hM hf (n := 2) rfl
    simp only [zstp] at hs
    simp only [Option.some.injEq, Prod.mk.injEq] at hs
    obtain ⟨rfl, rfl, rfl⟩ := hs
    exact lv_sipush hx hb d (of_decide_eq_true lt) (k p ev s m args below meth c H locs ls E hR hn hk hlo hl)
  | lconst q =>
    obtain ⟨d, rfl, -⟩ := zdn hM hf (n := 0) rfl
    obtain ⟨kv, hkv⟩ := q
    simp only [zstp] at hs
    match kv, hkv, d, hs with
    | 0, hkv, d, hs =>
      simp only [Option.some.injEq, Prod.mk.injEq] at hs
      obtain ⟨rfl, rfl, rfl⟩ := hs
      exact lv_lconst hx hb d rfl (k p ev s m args below meth c H locs ls E hR hn hk hlo hl)
    | 1, hkv, d, hs =>
      simp only [Option.some.injEq, Prod.mk.injEq] at hs
      obtain ⟨rfl, rfl, rfl⟩ := hs
      exact lv_lconst hx hb d rfl (k p ev s m args below meth c H locs ls E hR hn hk hlo hl)
  | aconst_null =>
    obtain ⟨d, rfl, -⟩ := zdn hM hf (n := 0) rfl
    simp only [zstp] at hs
    simp only [Option.some.injEq, Prod.mk.injEq] at hs
    obtain ⟨rfl, rfl, rfl⟩ := hs
    exact lv_null hx hb d (k p ev s m args below meth c H locs ls E hR hn hk hlo hl)
  | iload i =>
    obtain ⟨d, rfl, -⟩ := zdn hM hf (n := 1) rfl
    simp only [zstp] at hs
    split at hs
    · rename_i hz
      simp only [Option.some.injEq, Prod.mk.injEq] at hs
      obtain ⟨rfl, rfl, rfl⟩ := hs
      exact lv_iload hx hb d (hl.at hz) (k p ev s m args below meth c H locs ls E hR hn hk hlo hl)
    · cases hs
  | iload_n q =>
    obtain ⟨d, rfl, -⟩ := zdn hM hf (n := 0) rfl
    simp only [zstp] at hs
    split at hs
    · rename_i hz
      simp only [Option.some.injEq, Prod.mk.injEq] at hs
      obtain ⟨rfl, rfl, rfl⟩ := hs
      exact lv_iload_n hx hb d rfl (hl.at hz) (k p ev s m args below meth c H locs ls E hR hn hk hlo hl)
    · cases hs
  | lload i =>
    obtain ⟨d, rfl, -⟩ := zdn hM hf (n := 1) rfl
    simp only [zstp] at hs
    split at hs
    · rename_i hz
      simp only [Option.some.injEq, Prod.mk.injEq] at hs
      obtain ⟨rfl, rfl, rfl⟩ := hs
      exact lv_lload hx hb d (hl.at hz) (k p ev s m args below meth c H locs ls E hR hn hk hlo hl)
    · cases hs
  | lload_n q =>
    obtain ⟨d, rfl, -⟩ := zdn hM hf (n := 0) rfl
    simp only [zstp] at hs
    split at hs
    · rename_i hz
      simp only [Option.some.injEq, Prod.mk.injEq] at hs
      obtain ⟨rfl, rfl, rfl⟩ := hs
      exact lv_lload_n hx hb d rfl (hl.at hz) (k p ev s m args below meth c H locs ls E hR hn hk hlo hl)
    · cases hs
  | aload i =>
    obtain ⟨d, rfl, -⟩ := zdn hM hf (n := 1) rfl
    simp only [zstp] at hs
    split at hs
    · rename_i hz
      simp only [Option.some.injEq, Prod.mk.injEq] at hs
      obtain ⟨rfl, rfl, rfl⟩ := hs
      exact lv_aload hx hb d (hl.at hz) (k p ev s m args below meth c H locs ls E hR hn hk hlo hl)
    · rename_i hz
      simp only [Option.some.injEq, Prod.mk.injEq] at hs
      obtain ⟨rfl, rfl, rfl⟩ := hs
      exact lv_aloadN hx hb d (hl.at hz) (k p ev s m args below meth c H locs ls E hR hn hk hlo hl)
    · cases hs
  | aload_n q =>
    obtain ⟨d, rfl, -⟩ := zdn hM hf (n := 0) rfl
    simp only [zstp] at hs
    split at hs
    · rename_i hz
      simp only [Option.some.injEq, Prod.mk.injEq] at hs
      obtain ⟨rfl, rfl, rfl⟩ := hs
      exact lv_aload_n hx hb d rfl (hl.at hz) (k p ev s m args below meth c H locs ls E hR hn hk hlo hl)
    · rename_i hz
      simp only [Option.some.injEq, Prod.mk.injEq] at hs
      obtain ⟨rfl, rfl, rfl⟩ := hs
      exact lv_aload_nN hx hb d rfl (hl.at hz) (k p ev s m args below meth c H locs ls E hR hn hk hlo hl)
    · cases hs
  | istore i =>
    obtain ⟨d, rfl, -⟩ := zdn hM hf (n := 1) rfl
    simp only [zstp] at hs
    split at hs
    · rename_i x9 r9 hz
      rw [zfc_eq] at hs
      simp only [Option.some.injEq, Prod.mk.injEq] at hs
      obtain ⟨rfl, rfl, rfl⟩ := hs
      obtain ⟨l9, g1, g2, g3⟩ := hl.st1 (v := .int x9) rfl hz
      exact lv_istore hx hb d g1 g2 rfl (fun ls' h' => k p ev s m args below meth c H locs ls' E hR hn hk hlo (g3 ls' h'))
    · cases hs
  | istore_n q =>
    obtain ⟨d, rfl, -⟩ := zdn hM hf (n := 0) rfl
    simp only [zstp] at hs
    split at hs
    · rename_i x9 r9 hz
      rw [zfc_eq] at hs
      simp only [Option.some.injEq, Prod.mk.injEq] at hs
      obtain ⟨rfl, rfl, rfl⟩ := hs
      obtain ⟨l9, g1, g2, g3⟩ := hl.st1 (v := .int x9) rfl hz
      exact lv_istore_n hx hb d rfl g1 g2 rfl (fun ls' h' => k p ev s m args below meth c H locs ls' E hR hn hk hlo (g3 ls' h'))
    · cases hs
  | lstore i =>
    obtain ⟨d, rfl, -⟩ := zdn hM hf (n := 1) rfl
    simp only [zstp] at hs
    split at hs
    · rename_i x9 r9 hz
      rw [zfc_eq] at hs
      simp only [Option.some.injEq, Prod.mk.injEq] at hs
      obtain ⟨rfl, rfl, rfl⟩ := hs
      obtain ⟨l9, g1, g2, g3⟩ := hl.st2 (v := .long x9) rfl hz
      exact lv_lstore hx hb d g1 g2 rfl (fun ls' h' => k p ev s m args below meth c H locs ls' E hR hn hk hlo (g3 ls' h'))
    · cases hs
  | lstore_n q =>
    obtain ⟨d, rfl, -⟩ := zdn hM hf (n := 0) rfl
    simp only [zstp] at hs
    split at hs
    · rename_i x9 r9 hz
      rw [zfc_eq] at hs
      simp only [Option.some.injEq, Prod.mk.injEq] at hs
      obtain ⟨rfl, rfl, rfl⟩ := hs
      obtain ⟨l9, g1, g2, g3⟩ := hl.st2 (v := .long x9) rfl hz
      exact lv_lstore_n hx hb d rfl g1 g2 rfl (fun ls' h' => k p ev s m args below meth c H locs ls' E hR hn hk hlo (g3 ls' h'))
    · cases hs
  | astore i =>
    obtain ⟨d, rfl, -⟩ := zdn hM hf (n := 1) rfl
    simp only [zstp] at hs
    split at hs
    · rename_i x9 r9 hz
      rw [zfc_eq] at hs
      simp only [Option.some.injEq, Prod.mk.injEq] at hs
      obtain ⟨rfl, rfl, rfl⟩ := hs
      obtain ⟨l9, g1, g2, g3⟩ := hl.st1 (v := .ref x9) rfl hz
      exact lv_astore hx hb d g1 g2 rfl (fun ls' h' => k p ev s m args below meth c H locs ls' E hR hn hk hlo (g3 ls' h'))
    · rename_i hz
      rw [zfc_eq] at hs
      simp only [Option.some.injEq, Prod.mk.injEq] at hs
      obtain ⟨rfl, rfl, rfl⟩ := hs
      obtain ⟨l9, g1, g2, g3⟩ := hl.st1 (v := .null) rfl hz
      exact lv_astoreN hx hb d g1 g2 rfl (fun ls' h' => k p ev s m args below meth c H locs ls' E hR hn hk hlo (g3 ls' h'))
    · cases hs
  | astore_n q =>
    obtain ⟨d, rfl, -⟩ := zdn hM hf (n := 0) rfl
    simp only [zstp] at hs
    split at hs
    · rename_i x9 r9 hz
      rw [zfc_eq] at hs
      simp only [Option.some.injEq, Prod.mk.injEq] at hs
      obtain ⟨rfl, rfl, rfl⟩ := hs
      obtain ⟨l9, g1, g2, g3⟩ := hl.st1 (v := .ref x9) rfl hz
      exact lv_astore_n hx hb d rfl g1 g2 rfl (fun ls' h' => k p ev s m args below meth c H locs ls' E hR hn hk hlo (g3 ls' h'))
    · rename_i hz
      rw [zfc_eq] at hs
      simp only [Option.some.injEq, Prod.mk.injEq] at hs
      obtain ⟨rfl, rfl, rfl⟩ := hs
      obtain ⟨l9, g1, g2, g3⟩ := hl.st1 (v := .null) rfl hz
      exact lv_astore_nN hx hb d rfl g1 g2 rfl (fun ls' h' => k p ev s m args below meth c H locs ls' E hR hn hk hlo (g3 ls' h'))
    · cases hs
  | iinc i n =>
    obtain ⟨d, rfl, lt⟩ := zdn hM hf (n := 2) rfl
    simp only [zstp] at hs
    split at hs
    · rename_i hz hy
      rw [zfc_eq] at hs
      simp only [Option.some.injEq, Prod.mk.injEq] at hs
      obtain ⟨rfl, rfl, rfl⟩ := hs
      obtain ⟨l9, q9, g0, g1, g2, g3⟩ := hl.inc hy (w := .int (_ + v)) rfl hz
      exact lv_iinc hx hb d g1 g0 (by rw [of_decide_eq_true lt]) g2 rfl (fun ls' h' => k p ev s m args below meth c H locs ls' E hR hn hk hlo (g3 ls' h'))
    · cases hs
  | goto o =>
    obtain ⟨d, rfl, lt⟩ := zdn hM hf (n := 2) rfl
    simp only [zstp] at hs
    simp only [Option.some.injEq, Prod.mk.injEq] at hs
    obtain ⟨rfl, rfl, rfl⟩ := hs
    exact lv_goto hx hb d (of_decide_eq_true lt) (k p ev s m args below meth c H locs ls E hR hn hk hlo hl)
  | ifnull o =>
    obtain ⟨d, rfl, lt⟩ := zdn hM hf (n := 2) rfl
    simp only [zstp] at hs
    split at hs
    · simp only [Option.some.injEq, Prod.mk.injEq] at hs
      obtain ⟨rfl, rfl, rfl⟩ := hs
      exact lv_ifnull hx hb d (k p ev s m args below meth c H locs ls E hR hn hk hlo hl)
    · simp only [Option.some.injEq, Prod.mk.injEq] at hs
      obtain ⟨rfl, rfl, rfl⟩ := hs
      exact lv_ifnullN hx hb d (of_decide_eq_true lt) (k p ev s m args below meth c H locs ls E hR hn hk hlo hl)
    · cases hs
  | ifnonnull o =>
    obtain ⟨d, rfl, lt⟩ := zdn hM hf (n := 2) rfl
    simp only [zstp] at hs
    split at hs
    · simp only [Option.some.injEq, Prod.mk.injEq] at hs
      obtain ⟨rfl, rfl, rfl⟩ := hs
      exact lv_ifnonnull hx hb d (of_decide_eq_true lt) (k p ev s m args below meth c H locs ls E hR hn hk hlo hl)
    · simp only [Option.some.injEq, Prod.mk.injEq] at hs
      obtain ⟨rfl, rfl, rfl⟩ := hs
      exact lv_ifnonnullN hx hb d (k p ev s m args below meth c H locs ls E hR hn hk hlo hl)
    · cases hs
  | iadd =>
    obtain ⟨d, rfl, -⟩ := zdn hM hf (n := 0) rfl
    simp only [zstp] at hs
    split at hs
    · simp only [Option.some.injEq, Prod.mk.injEq] at hs
      obtain ⟨rfl, rfl, rfl⟩ := hs
      exact lv_iadd hx hb d (k p ev s m args below meth c H locs ls E hR hn hk hlo hl)
    · cases hs
  | isub =>
    obtain ⟨d, rfl, -⟩ := zdn hM hf (n := 0) rfl
    simp only [zstp] at hs
    split at hs
    · simp only [Option.some.injEq, Prod.mk.injEq] at hs
      obtain ⟨rfl, rfl, rfl⟩ := hs
      exact lv_isub hx hb d (k p ev s m args below meth c H locs ls E hR hn hk hlo hl)
    · cases hs
  | imul =>
    obtain ⟨d, rfl, -⟩ := zdn hM hf (n := 0) rfl
    simp only [zstp] at hs
    split at hs
    · simp only [Option.some.injEq, Prod.mk.injEq] at hs
      obtain ⟨rfl, rfl, rfl⟩ := hs
      exact lv_imul hx hb d (k p ev s m args below meth c H locs ls E hR hn hk hlo hl)
    · cases hs
  | iand =>
    obtain ⟨d, rfl, -⟩ := zdn hM hf (n := 0) rfl
    simp only [zstp] at hs
    split at hs
    · simp only [Option.some.injEq, Prod.mk.injEq] at hs
      obtain ⟨rfl, rfl, rfl⟩ := hs
      exact lv_iand hx hb d (k p ev s m args below meth c H locs ls E hR hn hk hlo hl)
    · cases hs
  | ior =>
    obtain ⟨d, rfl, -⟩ := zdn hM hf (n := 0) rfl
    simp only [zstp] at hs
    split at hs
    · simp only [Option.some.injEq, Prod.mk.injEq] at hs
      obtain ⟨rfl, rfl, rfl⟩ := hs
      exact lv_ior hx hb d (k p ev s m args below meth c H locs ls E hR hn hk hlo hl)
    · cases hs
  | ishr =>
    obtain ⟨d, rfl, -⟩ := zdn hM hf (n := 0) rfl
    simp only [zstp] at hs
    split at hs
    · simp only [Option.some.injEq, Prod.mk.injEq] at hs
      obtain ⟨rfl, rfl, rfl⟩ := hs
      exact lv_ishr hx hb d (k p ev s m args below meth c H locs ls E hR hn hk hlo hl)
    · cases hs
  | ineg =>
    obtain ⟨d, rfl, -⟩ := zdn hM hf (n := 0) rfl
    simp only [zstp] at hs
    split at hs
    · simp only [Option.some.injEq, Prod.mk.injEq] at hs
      obtain ⟨rfl, rfl, rfl⟩ := hs
      exact lv_ineg hx hb d (k p ev s m args below meth c H locs ls E hR hn hk hlo hl)
    · cases hs
  | ladd =>
    obtain ⟨d, rfl, -⟩ := zdn hM hf (n := 0) rfl
    simp only [zstp] at hs
    split at hs
    · simp only [Option.some.injEq, Prod.mk.injEq] at hs
      obtain ⟨rfl, rfl, rfl⟩ := hs
      exact lv_ladd hx hb d (k p ev s m args below meth c H locs ls E hR hn hk hlo hl)
    · cases hs
  | lsub =>
    obtain ⟨d, rfl, -⟩ := zdn hM hf (n := 0) rfl
    simp only [zstp] at hs
    split at hs
    · simp only [Option.some.injEq, Prod.mk.injEq] at hs
      obtain ⟨rfl, rfl, rfl⟩ := hs
      exact lv_lsub hx hb d (k p ev s m args below meth c H locs ls E hR hn hk hlo hl)
    · cases hs
  | lmul =>
    obtain ⟨d, rfl, -⟩ := zdn hM hf (n := 0) rfl
    simp only [zstp] at hs
    split at hs
    · simp only [Option.some.injEq, Prod.mk.injEq] at hs
      obtain ⟨rfl, rfl, rfl⟩ := hs
      exact lv_lmul hx hb d (k p ev s m args below meth c H locs ls E hR hn hk hlo hl)
    · cases hs
  | land =>
    obtain ⟨d, rfl, -⟩ := zdn hM hf (n := 0) rfl
    simp only [zstp] at hs
    split at hs
    · simp only [Option.some.injEq, Prod.mk.injEq] at hs
      obtain ⟨rfl, rfl, rfl⟩ := hs
      exact lv_land hx hb d (k p ev s m args below meth c H locs ls E hR hn hk hlo hl)
    · cases hs
  | lor =>
    obtain ⟨d, rfl, -⟩ := zdn hM hf (n := 0) rfl
    simp only [zstp] at hs
    split at hs
    · simp only [Option.some.injEq, Prod.mk.injEq] at hs
      obtain ⟨rfl, rfl, rfl⟩ := hs
      exact lv_lor hx hb d (k p ev s m args below meth c H locs ls E hR hn hk hlo hl)
    · cases hs
  | lneg =>
    obtain ⟨d, rfl, -⟩ := zdn hM hf (n := 0) rfl
    simp only [zstp] at hs
    split at hs
    · simp only [Option.some.injEq, Prod.mk.injEq] at hs
      obtain ⟨rfl, rfl, rfl⟩ := hs
      exact lv_lneg hx hb d (k p ev s m args below meth c H locs ls E hR hn hk hlo hl)
    · cases hs
  | lshl =>
    obtain ⟨d, rfl, -⟩ := zdn hM hf (n := 0) rfl
    simp only [zstp] at hs
    split at hs
    · simp only [Option.some.injEq, Prod.mk.injEq] at hs
      obtain ⟨rfl, rfl, rfl⟩ := hs
      exact lv_lshl hx hb d rfl (k p ev s m args below meth c H locs ls E hR hn hk hlo hl)
    · cases hs
  | lushr =>
    obtain ⟨d, rfl, -⟩ := zdn hM hf (n := 0) rfl
    simp only [zstp] at hs
    split at hs
    · simp only [Option.some.injEq, Prod.mk.injEq] at hs
      obtain ⟨rfl, rfl, rfl⟩ := hs
      exact lv_lushr hx hb d rfl (k p ev s m args below meth c H locs ls E hR hn hk hlo hl)
    · cases hs
  | i2l =>
    obtain ⟨d, rfl, -⟩ := zdn hM hf (n := 0) rfl
    simp only [zstp] at hs
    split at hs
    · simp only [Option.some.injEq, Prod.mk.injEq] at hs
      obtain ⟨rfl, rfl, rfl⟩ := hs
      exact lv_i2l hx hb d rfl (k p ev s m args below meth c H locs ls E hR hn hk hlo hl)
    · cases hs
  | l2i =>
    obtain ⟨d, rfl, -⟩ := zdn hM hf (n := 0) rfl
    simp only [zstp] at hs
    split at hs
    · simp only [Option.some.injEq, Prod.mk.injEq] at hs
      obtain ⟨rfl, rfl, rfl⟩ := hs
      exact lv_l2i hx hb d rfl (k p ev s m args below meth c H locs ls E hR hn hk hlo hl)
    · cases hs
  | i2b =>
    obtain ⟨d, rfl, -⟩ := zdn hM hf (n := 0) rfl
    simp only [zstp] at hs
    split at hs
    · simp only [Option.some.injEq, Prod.mk.injEq] at hs
      obtain ⟨rfl, rfl, rfl⟩ := hs
      exact lv_i2b hx hb d rfl (k p ev s m args below meth c H locs ls E hR hn hk hlo hl)
    · cases hs
  | lcmp =>
    obtain ⟨d, rfl, -⟩ := zdn hM hf (n := 0) rfl
    simp only [zstp] at hs
    split at hs
    · simp only [Option.some.injEq, Prod.mk.injEq] at hs
      obtain ⟨rfl, rfl, rfl⟩ := hs
      exact W.lcmp hx hb d (k p ev s m args below meth c H locs ls E hR hn hk hlo hl)
    · cases hs
  | dup =>
    obtain ⟨d, rfl, -⟩ := zdn hM hf (n := 0) rfl
    simp only [zstp] at hs
    split at hs
    · split at hs
      · rename_i hz
        simp only [Option.some.injEq, Prod.mk.injEq] at hs
        obtain ⟨rfl, rfl, rfl⟩ := hs
        exact lv_dup hx hb d (zc1_ok hz) (k p ev s m args below meth c H locs ls E hR hn hk hlo hl)
      · cases hs
    · cases hs
  | pop =>
    obtain ⟨d, rfl, -⟩ := zdn hM hf (n := 0) rfl
    simp only [zstp] at hs
    split at hs
    · split at hs
      · rename_i hz
        simp only [Option.some.injEq, Prod.mk.injEq] at hs
        obtain ⟨rfl, rfl, rfl⟩ := hs
        exact lv_pop hx hb d (zc1_ok hz) (k p ev s m args below meth c H locs ls E hR hn hk hlo hl)
      · cases hs
    · cases hs
  | dup_x1 =>
    obtain ⟨d, rfl, -⟩ := zdn hM hf (n := 0) rfl
    simp only [zstp] at hs
    split at hs
    · split at hs
      · rename_i hz hy
        simp only [Option.some.injEq, Prod.mk.injEq] at hs
        obtain ⟨rfl, rfl, rfl⟩ := hs
        exact lv_dup_x1 hx hb d (zc1_ok hz) (zc1_ok hy) (k p ev s m args below meth c H locs ls E hR hn hk hlo hl)
      · cases hs
    · cases hs
  | _ => simp [zstp] at hs
theorem z_go (n : Nat) {pc' : Nat} {L' : zLo} {st' : List Value} (hg : zgo (zFt M) n pc L st = (pc', L', st')) (k : Z X M f h pc' L' st' Q) : Z X M f h pc L st Q := by
  induction n generalizing pc L st with
  | zero =>
    simp only [zgo, Prod.mk.injEq] at hg
    obtain ⟨rfl, rfl, rfl⟩ := hg
    exact k
  | succ n ih =>
    simp only [zgo] at hg
    split at hg
    · rename_i e he
      split at hg
      · rename_i p9 L9 s9 hz
        exact z_stp he hz (ih hg)
      · simp only [Prod.mk.injEq] at hg
        obtain ⟨rfl, rfl, rfl⟩ := hg
        exact k
    · simp only [Prod.mk.injEq] at hg
      obtain ⟨rfl, rfl, rfl⟩ := hg
      exact k
set_option maxHeartbeats 1000000 in
theorem z_br {e : zEn} {ct cf : Prop} {st' : List Value} (hf : zlk (zFt M) pc = some e) (hs : zbr e st = some (ct, cf, st')) (kt : ct → Z X M f h e.2.2.2.2 L st' Q) (kf : cf → Z X M f h e.2.2.1 L st' Q) : Z X M f h pc L st Q := by
  intro p ev s m args below meth c H locs ls E hR hn hk hlo hl
  obtain ⟨p0, ins, nx, v, t⟩ := e
  obtain ⟨hG, hM, hx, hb, -⟩ := id E
  cases ins with
  | ifCond b o =>
    obtain ⟨d, rfl, lt⟩ := zdn hM hf (n := 2) rfl
    simp only [zbr] at hs
    split at hs
    · cases b with
      | eq =>
        simp only [Option.some.injEq, Prod.mk.injEq] at hs
        obtain ⟨rfl, rfl, rfl⟩ := hs
        exact lv_if_eq hx hb d (of_decide_eq_true lt) (fun q => kt q p ev s m args below meth c H locs ls E hR hn hk hlo hl) (fun q => kf q p ev s m args below meth c H locs ls E hR hn hk hlo hl)
      | ne =>
        simp only [Option.some.injEq, Prod.mk.injEq] at hs
        obtain ⟨rfl, rfl, rfl⟩ := hs
        exact lv_if_ne hx hb d (of_decide_eq_true lt) (fun q => kt q p ev s m args below meth c H locs ls E hR hn hk hlo hl) (fun q => kf q p ev s m args below meth c H locs ls E hR hn hk hlo hl)
      | lt =>
        simp only [Option.some.injEq, Prod.mk.injEq] at hs
        obtain ⟨rfl, rfl, rfl⟩ := hs
        exact lv_if_lt hx hb d (of_decide_eq_true lt) (fun q => kt q p ev s m args below meth c H locs ls E hR hn hk hlo hl) (fun q => kf q p ev s m args below meth c H locs ls E hR hn hk hlo hl)
      | ge =>
        simp only [Option.some.injEq, Prod.mk.injEq] at hs
        obtain ⟨rfl, rfl, rfl⟩ := hs
        exact lv_if_ge hx hb d (of_decide_eq_true lt) (fun q => kt q p ev s m args below meth c H locs ls E hR hn hk hlo hl) (fun q => kf q p ev s m args below meth c H locs ls E hR hn hk hlo hl)
      | gt =>
        simp only [Option.some.injEq, Prod.mk.injEq] at hs
        obtain ⟨rfl, rfl, rfl⟩ := hs
        exact lv_if_gt hx hb d (of_decide_eq_true lt) (fun q => kt q p ev s m args below meth c H locs ls E hR hn hk hlo hl) (fun q => kf q p ev s m args below meth c H locs ls E hR hn hk hlo hl)
      | le =>
        simp only [Option.some.injEq, Prod.mk.injEq] at hs
        obtain ⟨rfl, rfl, rfl⟩ := hs
        exact lv_if_le hx hb d (of_decide_eq_true lt) (fun q => kt q p ev s m args below meth c H locs ls E hR hn hk hlo hl) (fun q => kf q p ev s m args below meth c H locs ls E hR hn hk hlo hl)
    · cases hs
  | if_icmp b o =>
    obtain ⟨d, rfl, lt⟩ := zdn hM hf (n := 2) rfl
    simp only [zbr] at hs
    split at hs
    · cases b with
      | eq =>
        simp only [Option.some.injEq, Prod.mk.injEq] at hs
        obtain ⟨rfl, rfl, rfl⟩ := hs
        exact lv_icmp_eq hx hb d (of_decide_eq_true lt) (fun q => kt q p ev s m args below meth c H locs ls E hR hn hk hlo hl) (fun q => kf q p ev s m args below meth c H locs ls E hR hn hk hlo hl)
      | ne =>
        simp only [Option.some.injEq, Prod.mk.injEq] at hs
        obtain ⟨rfl, rfl, rfl⟩ := hs
        exact lv_icmp_ne hx hb d (of_decide_eq_true lt) (fun q => kt q p ev s m args below meth c H locs ls E hR hn hk hlo hl) (fun q => kf q p ev s m args below meth c H locs ls E hR hn hk hlo hl)
      | lt =>
        simp only [Option.some.injEq, Prod.mk.injEq] at hs
        obtain ⟨rfl, rfl, rfl⟩ := hs
        exact lv_icmp_lt hx hb d (of_decide_eq_true lt) (fun q => kt q p ev s m args below meth c H locs ls E hR hn hk hlo hl) (fun q => kf q p ev s m args below meth c H locs ls E hR hn hk hlo hl)
      | ge =>
        simp only [Option.some.injEq, Prod.mk.injEq] at hs
        obtain ⟨rfl, rfl, rfl⟩ := hs
        exact lv_icmp_ge hx hb d (of_decide_eq_true lt) (fun q => kt q p ev s m args below meth c H locs ls E hR hn hk hlo hl) (fun q => kf q p ev s m args below meth c H locs ls E hR hn hk hlo hl)
      | gt =>
        simp only [Option.some.injEq, Prod.mk.injEq] at hs
        obtain ⟨rfl, rfl, rfl⟩ := hs
        exact lv_icmp_gt hx hb d (of_decide_eq_true lt) (fun q => kt q p ev s m args below meth c H locs ls E hR hn hk hlo hl) (fun q => kf q p ev s m args below meth c H locs ls E hR hn hk hlo hl)
      | le =>
        simp only [Option.some.injEq, Prod.mk.injEq] at hs
        obtain ⟨rfl, rfl, rfl⟩ := hs
        exact lv_icmp_le hx hb d (of_decide_eq_true lt) (fun q => kt q p ev s m args below meth c H locs ls E hR hn hk hlo hl) (fun q => kf q p ev s m args below meth c H locs ls E hR hn hk hlo hl)
    · cases hs
  | if_acmp b o =>
    obtain ⟨d, rfl, lt⟩ := zdn hM hf (n := 2) rfl
    simp only [zbr] at hs
    split at hs
    · rename_i y9 x9 r9
      cases b with
      | eq =>
        simp only [Option.some.injEq, Prod.mk.injEq] at hs
        obtain ⟨rfl, rfl, rfl⟩ := hs
        exact lv_acmp_eq (rx := some x9) (ry := some y9) hx hb d (of_decide_eq_true lt) (fun q => kt (Option.some.inj q) p ev s m args below meth c H locs ls E hR hn hk hlo hl) (fun q => kf (fun z => q (congrArg some z)) p ev s m args below meth c H locs ls E hR hn hk hlo hl)
      | ne =>
        simp only [Option.some.injEq, Prod.mk.injEq] at hs
        obtain ⟨rfl, rfl, rfl⟩ := hs
        exact lv_acmp_ne (rx := some x9) (ry := some y9) hx hb d (of_decide_eq_true lt) (fun q => kt (fun z => q (congrArg some z)) p ev s m args below meth c H locs ls E hR hn hk hlo hl) (fun q => kf (Option.some.inj q) p ev s m args below meth c H locs ls E hR hn hk hlo hl)
    · cases hs
  | _ => simp [zbr] at hs
end ZR1
