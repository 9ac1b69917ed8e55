abbrev zI (X : zCx) (n : Nat) (g : Nat → Int32) : va_E := .inl (zA X 0, n, .inl g)
abbrev zJ (X : zCx) (n : Nat) (g : Nat → Int64) : va_E := .inl (zA X 1, n, .inr (.inl g))
abbrev zY (X : zCx) (n : Nat) (g : Nat → Int32) : va_E := .inl (zA X 2, n, .inl g)
abbrev zZ (X : zCx) (n : Nat) (g : Nat → Int32) : va_E := .inl (zA X 3, n, .inl g)
abbrev zOb (X : zCx) (n : Nat) (g : Nat → Option Nat) : va_E := .inl (zA X 4, n, .inr (.inr (.inr (.inr g))))
abbrev zBk (X : zCx) (n : Nat) (g : Nat → Option Nat) : va_E := .inl (zA X 5, n, .inr (.inr (.inr (.inr g))))
theorem zgl {C : String} {T : u_T} {N : Nat} {w : Jvm.Cond} (h : w ∈ u_ws C T N) : goodWord w = true := by
  unfold u_ws at h
  obtain ⟨k, -, rfl⟩ := List.mem_map.mp h
  unfold u_lay
  split <;> rfl
theorem z_ix {i : Int32} {j n : Nat} (hi : i.toInt = (j : Int)) (hj : j < n) : vp_in i n ∧ i.toNatClampNeg = j := by
  refine ⟨vp_in_iff.mpr ⟨by omega, by omega⟩, ?_⟩
  show i.toInt.toNat = j
  omega
theorem z_at {X : zCx} {h : zHp} {H : Heap} (hR : zR X h H) {a : Nat} {e : va_E} (hh : h.1 a = some e) : va_at (zD X) vwCl (a, e) H := (hR.2.2.2.1 a e hh).2
theorem z_bs {X : zCx} {h : zHp} {H : Heap} (hR : zR X h H) {a : Nat} {e : va_E} (hh : h.1 a = some e) : zB X ≤ a := (hR.2.2.2.1 a e hh).1
theorem z_lc {X : zCx} {locs : List Loc} {a i : Nat} (h : ∀ q ∈ locs, zB X ≤ q.base) (ha : zB X ≤ a) : ∀ q ∈ locs ++ [(⟨a, i⟩ : Loc)], zB X ≤ q.base := by
  intro q hq
  rcases List.mem_append.mp hq with h1 | h1
  · exact h q h1
  · rw [List.mem_singleton.mp h1]
    exact ha
section ZH
variable {X : zCx} {M : zMI} {f : zFr} {h : zHp} {pc : Nat} {L : zLo} {st : List Value} {Q : zRs → zHp → Prop}
theorem z_get {a ci : Nat} {fs : List Value} {k p0 idx nx t : Nat} {lv : Int32} {v : Value} {ref name desc : String} (hh : h.1 a = some (.inr (ci, fs))) (hf : zlk (zFt M) pc = some (p0, .getfield idx, nx, lv, t)) (hr : zFR[t]? = some ((zNm M).cls, idx, ref, name, desc)) (hk : zfk ci t = some k) (hv : fs[k]? = some v) (kk : Z X M f h nx L (v :: st) Q) : Z X M f h pc L (.ref a :: st) Q := by
  intro p ev s m args below meth c H locs ls E hR hn hk0 hlo hl
  obtain ⟨hG, hM, hx, hb, -, -, -, hown, hW, -⟩ := id E
  obtain ⟨d, rfl, -⟩ := zdn hM hf (n := 2) rfl
  obtain ⟨hcl, hkN, e1, e2, e3⟩ := zfk_ok hk hr
  dsimp only at e1 e2 e3
  have hlk : (Jvm.Cond.fieldLink (zNm M).cls idx ref name desc).before args s = true := zw hG hW (zFR_in hr) rfl
  refine va_get (D := zD X) (ci := ci) (v := v) (C := (zcl ci).1) (T := (zcl ci).2.1) (N := (zcl ci).2.2.1) (ref := ref) (Ts := u_ws (zcl ci).1 (zcl ci).2.1 (zcl ci).2.2.1) hx hb (fun w hw => zw hG hW (hcl.2.1 w hw) (zgl hw)) (fun w hw => hw) hown (zKs hG hW) (hR.at hh) 0 rfl hcl.1 k hkN (by rw [e1, e2]; exact hlk) (fun x ho => ?_) hv d (kk p ev s m args below meth c H locs ls E hR hn hk0 hlo hl)
  rw [e1, e2] at ho ⊢
  rcases e3 with e3 | e3
  · rw [← e3]; exact ho
  · exact u_same (args := args) (zw hG hW (zSF_in e3) rfl) x ho
theorem z_put {a ci : Nat} {fs : List Value} {k p0 idx nx t : Nat} {lv : Int32} {v : Value} {ref name desc : String} (hh : h.1 a = some (.inr (ci, fs))) (hf : zlk (zFt M) pc = some (p0, .putfield idx, nx, lv, t)) (hr : zFR[t]? = some ((zNm M).cls, idx, ref, name, desc)) (hk : zfk ci t = some k) (hfin : ((zcl ci).2.1 k).2.2.2 = false) (hnv : narrow ((zcl ci).2.2.2 k) v = v) (hfv : fits ((zcl ci).2.2.2 k) v = true) (hlen : k < fs.length)
    (kk : Z X M f (zset h a (.inr (ci, fs.set k v))) nx L st Q) : Z X M f h pc L (v :: .ref a :: st) Q := by
  intro p ev s m args below meth c H locs ls E hR hn hk0 hlo hl
  obtain ⟨hG, hM, hx, hb, -, -, -, hown, hW, -⟩ := id E
  obtain ⟨d, rfl, -⟩ := zdn hM hf (n := 2) rfl
  obtain ⟨hcl, hkN, e1, e2, e3⟩ := zfk_ok hk hr
  dsimp only at e1 e2 e3
  have hlk : (Jvm.Cond.fieldLink (zNm M).cls idx ref name desc).before args s = true := zw hG hW (zFR_in hr) rfl
  have hts : ∀ w ∈ u_ws (zcl ci).1 (zcl ci).2.1 (zcl ci).2.2.1, w.before args s = true := fun w hw => zw hG hW (hcl.2.1 w hw) (zgl hw)
  have hK := zKs hG hW
  have hap := va_apart (own := (zNm M).cls) (D := zD X) (args := args) hts (fun w hw => hw) (zcl ci).2.2.2 hcl.2.2.1 hcl.2.2.2 hK hcl.1
  obtain ⟨r, h1, cell, q1, q2, q3, q4⟩ := z_at hR hh
  have hr9 : r = ((zcl ci).1, (zcl ci).2.1, (zcl ci).2.2.1) := Option.some.inj (h1.symm.trans hcl.1)
  subst hr9
  obtain ⟨hS, hfc, kC, hkC, hkind⟩ := hK.1 ci _ hcl.1
  obtain ⟨cf, kf, fi, fd, hi, hsl⟩ := hS k hkN
  have hlay := hts _ (u_in_lay hkN)
  unfold u_lay at hlay
  rw [if_neg (by rw [hfin]; decide)] at hlay
  have hst := (u_facts hfc hkC (u_lays hts (fun w hw => hw) hkN) hi).1
  have h6 := u_store hfc hkC hkind hlay hi (hcl.2.2.1 k hkN) hnv hfv
  have hsame : s.fieldFound? ref name desc = some (cf, kf, fi, fd) := by
    have ho := hi
    dsimp only at ho
    rw [e1, e2] at ho
    rcases e3 with e3 | e3
    · rw [← e3]; exact ho
    · exact u_same (args := args) (zw hG hW (zSF_in e3) rfl) _ ho
  refine W.putK hx hb (f := fd) ⟨hown, hlk, ⟨_, _, _, hsame⟩, hst⟩ (by rw [q2]; exact h6) q1 q3 (by rw [hsl]; exact k2_hasslot (q4 k hkN)) rfl rfl d fun H' g1 g2 g3 => ?_
  rw [hsl] at g1 ⊢
  exact kk p ev s m args below meth c H' _ ls E (hR.put (z_bs hR hh) ⟨_, hcl.1, t_OB.to (V := updV (vp_V fs) k v) ⟨_, g1, q2, q3, t_set q4 hap hkN v⟩ (fun j _ => vp_updV_set hlen v j)⟩ g2 g3) hn hk0 (z_lc hlo (z_bs hR hh)) hl
theorem z_putF {a ci : Nat} {fs : List Value} {k p0 idx nx t : Nat} {lv : Int32} {v : Value} {ref name desc : String} (hh : h.1 a = some (.inr (ci, fs))) (hf : zlk (zFt M) pc = some (p0, .putfield idx, nx, lv, t)) (hr : zFR[t]? = some ((zNm M).cls, idx, ref, name, desc)) (hk : zfk ci t = some k) (hfin : ((zcl ci).2.1 k).2.2.2 = true) (hini : (zNm M).name = "<init>") (hdecl : ((zcl ci).2.1 k).1 = (zNm M).cls) (hnv : narrow ((zcl ci).2.2.2 k) v = v) (hfv : fits ((zcl ci).2.2.2 k) v = true) (hlen : k < fs.length)
    (kk : Z X M f (zset h a (.inr (ci, fs.set k v))) nx L st Q) : Z X M f h pc L (v :: .ref a :: st) Q := by
  intro p ev s m args below meth c H locs ls E hR hn hk0 hlo hl
  obtain ⟨hG, hM, hx, hb, -, -, -, hown, hW, -, hmn, -⟩ := id E
  obtain ⟨d, rfl, -⟩ := zdn hM hf (n := 2) rfl
  obtain ⟨hcl, hkN, e1, e2, e3⟩ := zfk_ok hk hr
  dsimp only at e1 e2 e3
  have hlk : (Jvm.Cond.fieldLink (zNm M).cls idx ref name desc).before args s = true := zw hG hW (zFR_in hr) rfl
  have hts : ∀ w ∈ u_ws (zcl ci).1 (zcl ci).2.1 (zcl ci).2.2.1, w.before args s = true := fun w hw => zw hG hW (hcl.2.1 w hw) (zgl hw)
  have hK := zKs hG hW
  have hap := va_apart (own := (zNm M).cls) (D := zD X) (args := args) hts (fun w hw => hw) (zcl ci).2.2.2 hcl.2.2.1 hcl.2.2.2 hK hcl.1
  obtain ⟨r, h1, cell, q1, q2, q3, q4⟩ := z_at hR hh
  have hr9 : r = ((zcl ci).1, (zcl ci).2.1, (zcl ci).2.2.1) := Option.some.inj (h1.symm.trans hcl.1)
  subst hr9
  obtain ⟨hS, hfc, kC, hkC, hkind⟩ := hK.1 ci _ hcl.1
  obtain ⟨cf, kf, fi, fd, hi, hsl⟩ := hS k hkN
  have hlay := hts _ (u_in_lay hkN)
  unfold u_lay at hlay
  rw [if_pos hfin] at hlay
  have hst := (u_facts hfc hkC (u_lays hts (fun w hw => hw) hkN) hi).1
  have hcf : m.cls = cf := by
    obtain ⟨_, _, c', _, _, _, -, -, hf', -, -, -, hown2, -⟩ := Cond.laysFinal_spec hlay
    have e9 : c' = cf := by have := hi.symm.trans hf'; simp at this; exact this.1.symm
    rw [hdecl] at hown2
    rw [← e9]; exact Option.some.inj (hown.symm.trans hown2)
  have h6 := u_fits hfc hkC hkind (Or.inr hlay) hi (hcl.2.2.1 k hkN) hnv hfv
  have hsame : s.fieldFound? ref name desc = some (cf, kf, fi, fd) := by
    have ho := hi
    dsimp only at ho
    rw [e1, e2] at ho
    rcases e3 with e3 | e3
    · rw [← e3]; exact ho
    · exact u_same (args := args) (zw hG hW (zSF_in e3) rfl) _ ho
  refine W.putFinK hx hb hown hlk hsame hst hcf (hmn.trans hini) (by rw [q2]; exact h6) q1 q3 (by rw [hsl]; exact k2_hasslot (q4 k hkN)) rfl rfl d fun H' g1 g2 g3 => ?_
  rw [hsl] at g1 ⊢
  exact kk p ev s m args below meth c H' _ ls E (hR.put (z_bs hR hh) ⟨_, hcl.1, t_OB.to (V := updV (vp_V fs) k v) ⟨_, g1, q2, q3, t_set q4 hap hkN v⟩ (fun j _ => vp_updV_set hlen v j)⟩ g2 g3) hn hk0 (z_lc hlo (z_bs hR hh)) hl
-- ARRAYS
theorem z_iald {a n : Nat} {g : Nat → Int32} {i : Int32} {p0 nx t : Nat} {lv : Int32} (j : Nat) (hh : h.1 a = some (zI X n g)) (hf : zlk (zFt M) pc = some (p0, .iaload, nx, lv, t)) (hi : i.toInt = (j : Int)) (hj : j < n) (kk : Z X M f h nx L (.int (g j) :: st) Q) : Z X M f h pc L (.int i :: .ref a :: st) Q := by
  intro p ev s m args below meth c H locs ls E hR hn hk0 hlo hl
  obtain ⟨hG, hM, hx, hb, -, -, -, hown, hW, -⟩ := id E
  obtain ⟨d, rfl, -⟩ := zdn hM hf (n := 0) rfl
  obtain ⟨hin, hcl⟩ := z_ix hi hj
  refine va_iald (D := zD X) (cl := vwCl) (ws := [(a, zI X n g)]) hx hb (zKs hG hW) (hR.at hh) 0 0 rfl (zTys_at X (k := 0) (by decide)) hin d ?_
  rw [hcl]
  exact kk p ev s m args below meth c H locs ls E hR hn hk0 hlo hl
theorem z_lald {a n : Nat} {g : Nat → Int64} {i : Int32} {p0 nx t : Nat} {lv : Int32} (j : Nat) (hh : h.1 a = some (zJ X n g)) (hf : zlk (zFt M) pc = some (p0, .laload, nx, lv, t)) (hi : i.toInt = (j : Int)) (hj : j < n) (kk : Z X M f h nx L (.long (g j) :: st) Q) : Z X M f h pc L (.int i :: .ref a :: st) Q := by
  intro p ev s m args below meth c H locs ls E hR hn hk0 hlo hl
  obtain ⟨hG, hM, hx, hb, -, -, -, hown, hW, -⟩ := id E
  obtain ⟨d, rfl, -⟩ := zdn hM hf (n := 0) rfl
  obtain ⟨hin, hcl⟩ := z_ix hi hj
  refine va_lald (D := zD X) (cl := vwCl) (ws := [(a, zJ X n g)]) hx hb (zKs hG hW) (hR.at hh) 0 1 rfl (zTys_at X (k := 1) (by decide)) hin d ?_
  rw [hcl]
  exact kk p ev s m args below meth c H locs ls E hR hn hk0 hlo hl
theorem z_bald {a n : Nat} {g : Nat → Int32} {i : Int32} {p0 nx t : Nat} {lv : Int32} (j : Nat) (hh : h.1 a = some (zY X n g)) (hf : zlk (zFt M) pc = some (p0, .baload, nx, lv, t)) (hi : i.toInt = (j : Int)) (hj : j < n) (kk : Z X M f h nx L (.int (g j) :: st) Q) : Z X M f h pc L (.int i :: .ref a :: st) Q := by
  intro p ev s m args below meth c H locs ls E hR hn hk0 hlo hl
  obtain ⟨hG, hM, hx, hb, -, -, -, hown, hW, -⟩ := id E
  obtain ⟨d, rfl, -⟩ := zdn hM hf (n := 0) rfl
  obtain ⟨hin, hcl⟩ := z_ix hi hj
  refine va_bald (D := zD X) (cl := vwCl) (ws := [(a, zY X n g)]) hx hb (zKs hG hW) (hR.at hh) 0 2 rfl (zTys_at X (k := 2) (by decide)) hin d ?_
  rw [hcl]
  exact kk p ev s m args below meth c H locs ls E hR hn hk0 hlo hl
theorem z_zald {a n : Nat} {g : Nat → Int32} {i : Int32} {p0 nx t : Nat} {lv : Int32} (j : Nat) (hh : h.1 a = some (zZ X n g)) (hf : zlk (zFt M) pc = some (p0, .baload, nx, lv, t)) (hi : i.toInt = (j : Int)) (hj : j < n) (kk : Z X M f h nx L (.int (g j) :: st) Q) : Z X M f h pc L (.int i :: .ref a :: st) Q := by
  intro p ev s m args below meth c H locs ls E hR hn hk0 hlo hl
  obtain ⟨hG, hM, hx, hb, -, -, -, hown, hW, -⟩ := id E
  obtain ⟨d, rfl, -⟩ := zdn hM hf (n := 0) rfl
  obtain ⟨hin, hcl⟩ := z_ix hi hj
  refine va_zald (D := zD X) (cl := vwCl) (ws := [(a, zZ X n g)]) hx hb (zKs hG hW) (hR.at hh) 0 3 rfl (zTys_at X (k := 3) (by decide)) hin d ?_
  rw [hcl]
  exact kk p ev s m args below meth c H locs ls E hR hn hk0 hlo hl
theorem z_oald {a n : Nat} {g : Nat → Option Nat} {i : Int32} {p0 nx t : Nat} {lv : Int32} (j : Nat) (hh : h.1 a = some (zOb X n g)) (hf : zlk (zFt M) pc = some (p0, .aaload, nx, lv, t)) (hi : i.toInt = (j : Int)) (hj : j < n) (kk : Z X M f h nx L (va_rf (g j) :: st) Q) : Z X M f h pc L (.int i :: .ref a :: st) Q := by
  intro p ev s m args below meth c H locs ls E hR hn hk0 hlo hl
  obtain ⟨hG, hM, hx, hb, -, -, -, hown, hW, -⟩ := id E
  obtain ⟨d, rfl, -⟩ := zdn hM hf (n := 0) rfl
  obtain ⟨hin, hcl⟩ := z_ix hi hj
  refine va_aldq (D := zD X) (cl := vwCl) (ws := [(a, zOb X n g)]) hx hb (zKs hG hW) (hR.at hh) 0 4 rfl (zTys_at X (k := 4) (by decide)) hin d ?_
  rw [hcl]
  exact kk p ev s m args below meth c H locs ls E hR hn hk0 hlo hl
theorem z_kald {a n : Nat} {g : Nat → Option Nat} {i : Int32} {p0 nx t : Nat} {lv : Int32} (j : Nat) (hh : h.1 a = some (zBk X n g)) (hf : zlk (zFt M) pc = some (p0, .aaload, nx, lv, t)) (hi : i.toInt = (j : Int)) (hj : j < n) (kk : Z X M f h nx L (va_rf (g j) :: st) Q) : Z X M f h pc L (.int i :: .ref a :: st) Q := by
  intro p ev s m args below meth c H locs ls E hR hn hk0 hlo hl
  obtain ⟨hG, hM, hx, hb, -, -, -, hown, hW, -⟩ := id E
  obtain ⟨d, rfl, -⟩ := zdn hM hf (n := 0) rfl
  obtain ⟨hin, hcl⟩ := z_ix hi hj
  refine va_aldq (D := zD X) (cl := vwCl) (ws := [(a, zBk X n g)]) hx hb (zKs hG hW) (hR.at hh) 0 5 rfl (zTys_at X (k := 5) (by decide)) hin d ?_
  rw [hcl]
  exact kk p ev s m args below meth c H locs ls E hR hn hk0 hlo hl
theorem z_iast {a n : Nat} {g : Nat → Int32} {i : Int32} {x : Int32} {p0 nx t : Nat} {lv : Int32} (j : Nat) (hh : h.1 a = some (zI X n g)) (hf : zlk (zFt M) pc = some (p0, .iastore, nx, lv, t)) (hi : i.toInt = (j : Int)) (hj : j < n) (kk : Z X M f (zset h a (zI X n (upd g j x))) nx L st Q) : Z X M f h pc L (.int x :: .int i :: .ref a :: st) Q := by
  intro p ev s m args below meth c H locs ls E hR hn hk0 hlo hl
  obtain ⟨hG, hM, hx, hb, -, -, -, hown, hW, -⟩ := id E
  obtain ⟨d, rfl, -⟩ := zdn hM hf (n := 0) rfl
  obtain ⟨hin, hcl⟩ := z_ix hi hj
  have hcell : H[a]? = some (vp_cell (zA X 0) _) := z_at hR hh
  refine W.iast hx hb hcell (((zKs hG hW).2 0 _ (zTys_at X (k := 0) (by decide))).1 n _) (fun q => by cases q) (by show ¬ (i < 0 ∨ (arrV _ _ _).slots.size ≤ _); rw [arrV_size]; exact hin) rfl rfl d fun H1 e1 z1 oq => ?_
  rw [hcl] at e1 ⊢
  refine kk p ev s m args below meth c H1 _ ls E (hR.put (z_bs hR hh) (show H1[a]? = some (vp_cell _ _) from ?_) z1 oq) hn hk0 (z_lc hlo (z_bs hR hh)) hl
  rw [e1, vp_cell_i, vp_cell_i, arrV_store]
  congr 2
  funext q
  by_cases hq : q = j
  · subst hq
    simp [updV, upd]
  · simp [updV, upd, hq]
theorem z_last {a n : Nat} {g : Nat → Int64} {i : Int32} {x : Int64} {p0 nx t : Nat} {lv : Int32} (j : Nat) (hh : h.1 a = some (zJ X n g)) (hf : zlk (zFt M) pc = some (p0, .lastore, nx, lv, t)) (hi : i.toInt = (j : Int)) (hj : j < n) (kk : Z X M f (zset h a (zJ X n (vp_updL g j x))) nx L st Q) : Z X M f h pc L (.long x :: .int i :: .ref a :: st) Q := by
  intro p ev s m args below meth c H locs ls E hR hn hk0 hlo hl
  obtain ⟨hG, hM, hx, hb, -, -, -, hown, hW, -⟩ := id E
  obtain ⟨d, rfl, -⟩ := zdn hM hf (n := 0) rfl
  obtain ⟨hin, hcl⟩ := z_ix hi hj
  have hcell : H[a]? = some (vp_cell (zA X 1) _) := z_at hR hh
  refine W.last hx hb hcell (((zKs hG hW).2 1 _ (zTys_at X (k := 1) (by decide))).1 n _) (fun q => by cases q) (by show ¬ (i < 0 ∨ (arrV _ _ _).slots.size ≤ _); rw [arrV_size]; exact hin) rfl rfl d fun H1 e1 z1 oq => ?_
  rw [hcl] at e1 ⊢
  refine kk p ev s m args below meth c H1 _ ls E (hR.put (z_bs hR hh) (show H1[a]? = some (vp_cell _ _) from ?_) z1 oq) hn hk0 (z_lc hlo (z_bs hR hh)) hl
  rw [e1, vp_cell_l, vp_cell_l, arrV_store]
  congr 2
  funext q
  by_cases hq : q = j
  · subst hq
    simp [updV, vp_updL]
  · simp [updV, vp_updL, hq]
theorem z_bast {a n : Nat} {g : Nat → Int32} {i : Int32} {x : Int32} {p0 nx t : Nat} {lv : Int32} (j : Nat) (hh : h.1 a = some (zY X n g)) (hf : zlk (zFt M) pc = some (p0, .bastore, nx, lv, t)) (hi : i.toInt = (j : Int)) (hj : j < n) (kk : Z X M f (zset h a (zY X n (upd g j x.toInt8.toInt32))) nx L st Q) : Z X M f h pc L (.int x :: .int i :: .ref a :: st) Q := by
  intro p ev s m args below meth c H locs ls E hR hn hk0 hlo hl
  obtain ⟨hG, hM, hx, hb, -, -, -, hown, hW, -⟩ := id E
  obtain ⟨d, rfl, -⟩ := zdn hM hf (n := 0) rfl
  obtain ⟨hin, hcl⟩ := z_ix hi hj
  have hcell : H[a]? = some (vp_cell (zA X 2) _) := z_at hR hh
  refine W.bast hx hb hcell (((zKs hG hW).2 2 _ (zTys_at X (k := 2) (by decide))).1 n _) (fun q => by cases q) (by show ¬ (i < 0 ∨ (arrV _ _ _).slots.size ≤ _); rw [arrV_size]; exact hin) rfl rfl d fun H1 e1 z1 oq => ?_
  rw [hcl] at e1 ⊢
  refine kk p ev s m args below meth c H1 _ ls E (hR.put (z_bs hR hh) (show H1[a]? = some (vp_cell _ _) from ?_) z1 oq) hn hk0 (z_lc hlo (z_bs hR hh)) hl
  rw [e1, vp_cell_i, vp_cell_i, arrV_store]
  congr 2
  funext q
  by_cases hq : q = j
  · subst hq
    simp [updV, upd]
    try rfl
  · simp [updV, upd, hq]
theorem z_zast {a n : Nat} {g : Nat → Int32} {i : Int32} {x : Int32} {p0 nx t : Nat} {lv : Int32} (j : Nat) (hh : h.1 a = some (zZ X n g)) (hf : zlk (zFt M) pc = some (p0, .bastore, nx, lv, t)) (hi : i.toInt = (j : Int)) (hj : j < n) (kk : Z X M f (zset h a (zZ X n (upd g j (vp_nar .boolean x)))) nx L st Q) : Z X M f h pc L (.int x :: .int i :: .ref a :: st) Q := by
  intro p ev s m args below meth c H locs ls E hR hn hk0 hlo hl
  obtain ⟨hG, hM, hx, hb, -, -, -, hown, hW, -⟩ := id E
  obtain ⟨d, rfl, -⟩ := zdn hM hf (n := 0) rfl
  obtain ⟨hin, hcl⟩ := z_ix hi hj
  have hcell : H[a]? = some (vp_cell (zA X 3) _) := z_at hR hh
  refine W.zast hx hb hcell (((zKs hG hW).2 3 _ (zTys_at X (k := 3) (by decide))).1 n _) (fun q => by cases q) (by show ¬ (i < 0 ∨ (arrV _ _ _).slots.size ≤ _); rw [arrV_size]; exact hin) rfl rfl d fun H1 e1 z1 oq => ?_
  rw [hcl] at e1 ⊢
  refine kk p ev s m args below meth c H1 _ ls E (hR.put (z_bs hR hh) (show H1[a]? = some (vp_cell _ _) from ?_) z1 oq) hn hk0 (z_lc hlo (z_bs hR hh)) hl
  rw [e1, vp_cell_i, vp_cell_i, arrV_store]
  congr 2
  funext q
  by_cases hq : q = j
  · subst hq
    simp [updV, upd, vp_nar]
    try rfl
  · simp [updV, upd, vp_nar, hq]
theorem z_oastN {a n : Nat} {g : Nat → Option Nat} {i : Int32} {p0 nx t : Nat} {lv : Int32} (j : Nat) (hh : h.1 a = some (zOb X n g)) (hf : zlk (zFt M) pc = some (p0, .aastore, nx, lv, t)) (hi : i.toInt = (j : Int)) (hj : j < n) (kk : Z X M f (zset h a (zOb X n (va_up g j none))) nx L st Q) : Z X M f h pc L (.null :: .int i :: .ref a :: st) Q := by
  intro p ev s m args below meth c H locs ls E hR hn hk0 hlo hl
  obtain ⟨hG, hM, hx, hb, -, -, -, hown, hW, -⟩ := id E
  obtain ⟨d, rfl, -⟩ := zdn hM hf (n := 0) rfl
  obtain ⟨hin, hcl⟩ := z_ix hi hj
  have hcell : H[a]? = some (vp_cell (zA X 4) _) := z_at hR hh
  refine va_WaastN (C := "java/lang/Object") hx hb hcell (((zKs hG hW).2 4 _ (zTys_at X (k := 4) (by decide))).1 n _) (fun h => by cases h) (by show ¬ (i < 0 ∨ (arrV _ _ _).slots.size ≤ _); rw [arrV_size]; exact hin) rfl rfl d fun H1 e1 z1 oq => ?_
  rw [hcl] at e1 ⊢
  refine kk p ev s m args below meth c H1 _ ls E (hR.put (z_bs hR hh) (show H1[a]? = some (vp_cell _ _) from ?_) z1 oq) hn hk0 (z_lc hlo (z_bs hR hh)) hl
  rw [e1, vp_cell_q, vp_cell_q, arrV_store]
  congr 2
  funext q
  by_cases hq : q = j
  · subst hq
    simp [updV, va_up, va_rf]
  · simp [updV, va_up, hq]
theorem z_kastN {a n : Nat} {g : Nat → Option Nat} {i : Int32} {p0 nx t : Nat} {lv : Int32} (j : Nat) (hh : h.1 a = some (zBk X n g)) (hf : zlk (zFt M) pc = some (p0, .aastore, nx, lv, t)) (hi : i.toInt = (j : Int)) (hj : j < n) (kk : Z X M f (zset h a (zBk X n (va_up g j none))) nx L st Q) : Z X M f h pc L (.null :: .int i :: .ref a :: st) Q := by
  intro p ev s m args below meth c H locs ls E hR hn hk0 hlo hl
  obtain ⟨hG, hM, hx, hb, -, -, -, hown, hW, -⟩ := id E
  obtain ⟨d, rfl, -⟩ := zdn hM hf (n := 0) rfl
  obtain ⟨hin, hcl⟩ := z_ix hi hj
  have hcell : H[a]? = some (vp_cell (zA X 5) _) := z_at hR hh
  refine va_WaastN (C := "ShadowWard$Block") hx hb hcell (((zKs hG hW).2 5 _ (zTys_at X (k := 5) (by decide))).1 n _) (fun h => by cases h) (by show ¬ (i < 0 ∨ (arrV _ _ _).slots.size ≤ _); rw [arrV_size]; exact hin) rfl rfl d fun H1 e1 z1 oq => ?_
  rw [hcl] at e1 ⊢
  refine kk p ev s m args below meth c H1 _ ls E (hR.put (z_bs hR hh) (show H1[a]? = some (vp_cell _ _) from ?_) z1 oq) hn hk0 (z_lc hlo (z_bs hR hh)) hl
  rw [e1, vp_cell_q, vp_cell_q, arrV_store]
  congr 2
  funext q
  by_cases hq : q = j
  · subst hq
    simp [updV, va_up, va_rf]
  · simp [updV, va_up, hq]
theorem z_oast {a n b ci : Nat} {fs : List Value} {g : Nat → Option Nat} {i : Int32} {p0 nx t : Nat} {lv : Int32} (j : Nat) (hh : h.1 a = some (zOb X n g)) (hob : h.1 b = some (.inr (ci, fs))) (hcs : zcast ci "java/lang/Object" = true) (hf : zlk (zFt M) pc = some (p0, .aastore, nx, lv, t)) (hi : i.toInt = (j : Int)) (hj : j < n) (kk : Z X M f (zset h a (zOb X n (va_up g j (some b)))) nx L st Q) : Z X M f h pc L (.ref b :: .int i :: .ref a :: st) Q := by
  intro p ev s m args below meth c H locs ls E hR hn hk0 hlo hl
  obtain ⟨hG, hM, hx, hb, -, -, -, hown, hW, -⟩ := id E
  obtain ⟨d, rfl, -⟩ := zdn hM hf (n := 0) rfl
  obtain ⟨hin, hcl⟩ := z_ix hi hj
  have hcell : H[a]? = some (vp_cell (zA X 4) _) := z_at hR hh
  obtain ⟨r', hr', cellV, g1, g2, g3, -⟩ := z_at hR hob
  have hK := zKs hG hW
  obtain ⟨kA, comp, k1, k2, k3, -⟩ := (hK.2 4 _ (zTys_at X (k := 4) (by decide))).2
  have h0 : ¬ i < 0 := fun q => hin (Or.inl q)
  have hlt : i.toNatClampNeg < n := by rw [hcl]; exact hj
  obtain ⟨hcls, c3, c4, w1, w2, w3⟩ := zcast_ok (args := args) hG hW hcs
  have hc3 : c3 = (zD X).1 ci := Option.some.inj (w1.symm.trans hcls.1)
  have hc4 : c4 = comp := Option.some.inj (w2.symm.trans k3)
  subst hc3 hc4
  obtain ⟨kC, hkC, -⟩ := hcls.2
  obtain ⟨kP, hkP⟩ := Vm.classAt_of_findClass k3
  refine W.aast hx hb hcell (fun q h => by cases h) (fun h => by cases h) k1 k2 rfl hkP ⟨h0, by show _ < (arrV _ _ _).slots.size; rw [arrV_size]; exact hlt⟩ g1 (fun q h => by rw [g3] at h; cases h) (by rw [g2]; exact hkC) (by rw [g2]; exact w3) rfl rfl d fun H1 e1 z1 oq => ?_
  rw [hcl] at e1 ⊢
  refine kk p ev s m args below meth c H1 _ ls E (hR.put (z_bs hR hh) (show H1[a]? = some (vp_cell _ _) from ?_) z1 oq) hn hk0 (z_lc hlo (z_bs hR hh)) hl
  rw [e1, vp_cell_q, vp_cell_q, arrV_store]
  congr 2
  funext q
  by_cases hq : q = j
  · subst hq
    simp [updV, va_up, va_rf]
  · simp [updV, va_up, hq]
theorem z_kast {a n b ci : Nat} {fs : List Value} {g : Nat → Option Nat} {i : Int32} {p0 nx t : Nat} {lv : Int32} (j : Nat) (hh : h.1 a = some (zBk X n g)) (hob : h.1 b = some (.inr (ci, fs))) (hcs : zcast ci "ShadowWard$Block" = true) (hf : zlk (zFt M) pc = some (p0, .aastore, nx, lv, t)) (hi : i.toInt = (j : Int)) (hj : j < n) (kk : Z X M f (zset h a (zBk X n (va_up g j (some b)))) nx L st Q) : Z X M f h pc L (.ref b :: .int i :: .ref a :: st) Q := by
  intro p ev s m args below meth c H locs ls E hR hn hk0 hlo hl
  obtain ⟨hG, hM, hx, hb, -, -, -, hown, hW, -⟩ := id E
  obtain ⟨d, rfl, -⟩ := zdn hM hf (n := 0) rfl
  obtain ⟨hin, hcl⟩ := z_ix hi hj
  have hcell : H[a]? = some (vp_cell (zA X 5) _) := z_at hR hh
  obtain ⟨r', hr', cellV, g1, g2, g3, -⟩ := z_at hR hob
  have hK := zKs hG hW
  obtain ⟨kA, comp, k1, k2, k3, -⟩ := (hK.2 5 _ (zTys_at X (k := 5) (by decide))).2
  have h0 : ¬ i < 0 := fun q => hin (Or.inl q)
  have hlt : i.toNatClampNeg < n := by rw [hcl]; exact hj
  obtain ⟨hcls, c3, c4, w1, w2, w3⟩ := zcast_ok (args := args) hG hW hcs
  have hc3 : c3 = (zD X).1 ci := Option.some.inj (w1.symm.trans hcls.1)
  have hc4 : c4 = comp := Option.some.inj (w2.symm.trans k3)
  subst hc3 hc4
  obtain ⟨kC, hkC, -⟩ := hcls.2
  obtain ⟨kP, hkP⟩ := Vm.classAt_of_findClass k3
  refine W.aast hx hb hcell (fun q h => by cases h) (fun h => by cases h) k1 k2 rfl hkP ⟨h0, by show _ < (arrV _ _ _).slots.size; rw [arrV_size]; exact hlt⟩ g1 (fun q h => by rw [g3] at h; cases h) (by rw [g2]; exact hkC) (by rw [g2]; exact w3) rfl rfl d fun H1 e1 z1 oq => ?_
  rw [hcl] at e1 ⊢
  refine kk p ev s m args below meth c H1 _ ls E (hR.put (z_bs hR hh) (show H1[a]? = some (vp_cell _ _) from ?_) z1 oq) hn hk0 (z_lc hlo (z_bs hR hh)) hl
  rw [e1, vp_cell_q, vp_cell_q, arrV_store]
  congr 2
  funext q
  by_cases hq : q = j
  · subst hq
    simp [updV, va_up, va_rf]
  · simp [updV, va_up, hq]
theorem z_alen {a : Nat} {x : vp_A} {k : Nat} {p0 nx t : Nat} {lv : Int32} (hk6 : k < 6) (hh : h.1 a = some (.inl (zA X k, x))) (hf : zlk (zFt M) pc = some (p0, .arraylength, nx, lv, t)) (kk : Z X M f h nx L (.int (nI x.1) :: st) Q) : Z X M f h pc L (.ref a :: st) Q := by
  intro p ev s m args below meth c H locs ls E hR hn hk0 hlo hl
  obtain ⟨hG, hM, hx, hb, -, -, -, hown, hW, -⟩ := id E
  obtain ⟨d, rfl, -⟩ := zdn hM hf (n := 0) rfl
  exact va_alen (D := zD X) (cl := vwCl) (ws := [(a, .inl (zA X k, x))]) hx hb (zKs hG hW) (hR.at hh) 0 k rfl (zTys_at X hk6) rfl d (kk p ev s m args below meth c H locs ls E hR hn hk0 hlo hl)
theorem z_cast {a ci : Nat} {fs : List Value} {p0 idx nx t : Nat} {lv : Int32} {nm : String} (hh : h.1 a = some (.inr (ci, fs))) (hf : zlk (zFt M) pc = some (p0, .checkcast idx, nx, lv, t)) (hr : zKL[t]? = some ((zNm M).cls, idx, nm)) (hcs : zcast ci nm = true) (kk : Z X M f h nx L (.ref a :: st) Q) : Z X M f h pc L (.ref a :: st) Q := by
  intro p ev s m args below meth c H locs ls E hR hn hk0 hlo hl
  obtain ⟨hG, hM, hx, hb, -, -, -, hown, hW, -⟩ := id E
  obtain ⟨d, rfl, -⟩ := zdn hM hf (n := 2) rfl
  obtain ⟨r', hr', cellV, g1, g2, g3, -⟩ := z_at hR hh
  obtain ⟨hcls, c3, c4, w1, w2, w3⟩ := zcast_ok (args := args) hG hW hcs
  intro T hT X9
  obtain ⟨vm', X', st9⟩ := X9.checkcastYes hx hown (zw hG hW (zKL_in hr) rfl) (by rw [hT]; exact g1) (by rw [g3]; rfl) w2 (by rw [g2]; have e9 : c3 = (zD X).1 ci := Option.some.inj (w1.symm.trans hcls.1); rw [← e9]; exact w3) (g := F0 m pc ls (.ref a :: st)) rfl rfl (by rw [hb]; exact d)
  obtain ⟨t9, a1, b1⟩ := kk p ev s m args below meth c H locs ls E hR hn hk0 hlo hl (T.setVm vm') hT X'
  exact ⟨t9, st9 t9 a1, b1⟩
theorem z_castN {p0 idx nx t : Nat} {lv : Int32} (hf : zlk (zFt M) pc = some (p0, .checkcast idx, nx, lv, t)) (kk : Z X M f h nx L (.null :: st) Q) : Z X M f h pc L (.null :: st) Q := by
  intro p ev s m args below meth c H locs ls E hR hn hk0 hlo hl
  obtain ⟨hG, hM, hx, hb, -, -, -, hown, hW, -⟩ := id E
  obtain ⟨d, rfl, -⟩ := zdn hM hf (n := 2) rfl
  exact lv_castN hx hb d (kk p ev s m args below meth c H locs ls E hR hn hk0 hlo hl)
theorem z_div {x y : Int32} {p0 nx t : Nat} {lv : Int32} (hf : zlk (zFt M) pc = some (p0, .idiv, nx, lv, t)) (hne : ¬ y = 0) (kk : Z X M f h nx L (.int (x / y) :: st) Q) : Z X M f h pc L (.int y :: .int x :: st) Q := by
  intro p ev s m args below meth c H locs ls E hR hn hk0 hlo hl
  obtain ⟨hG, hM, hx, hb, -, -, -, hown, hW, -⟩ := id E
  obtain ⟨d, rfl, -⟩ := zdn hM hf (n := 0) rfl
  exact lv_idiv hx hb d hne (kk p ev s m args below meth c H locs ls E hR hn hk0 hlo hl)
theorem z_rem {x y : Int32} {p0 nx t : Nat} {lv : Int32} (hf : zlk (zFt M) pc = some (p0, .irem, nx, lv, t)) (hne : ¬ y = 0) (kk : Z X M f h nx L (.int (x - x / y * y) :: st) Q) : Z X M f h pc L (.int y :: .int x :: st) Q := by
  intro p ev s m args below meth c H locs ls E hR hn hk0 hlo hl
  obtain ⟨hG, hM, hx, hb, -, -, -, hown, hW, -⟩ := id E
  obtain ⟨d, rfl, -⟩ := zdn hM hf (n := 0) rfl
  exact lv_irem hx hb d hne (kk p ev s m args below meth c H locs ls E hR hn hk0 hlo hl)
theorem z_lrem {x y : Int64} {p0 nx t : Nat} {lv : Int32} (hf : zlk (zFt M) pc = some (p0, .lrem, nx, lv, t)) (hne : ¬ y = 0) (kk : Z X M f h nx L (.long (x - x / y * y) :: st) Q) : Z X M f h pc L (.long y :: .long x :: st) Q := by
  intro p ev s m args below meth c H locs ls E hR hn hk0 hlo hl
  obtain ⟨hG, hM, hx, hb, -, -, -, hown, hW, -⟩ := id E
  obtain ⟨d, rfl, -⟩ := zdn hM hf (n := 0) rfl
  exact lv_lrem hx hb d hne (kk p ev s m args below meth c H locs ls E hR hn hk0 hlo hl)
theorem z_new {p0 idx nx t : Nat} {lv : Int32} (ci : Nat) {fs : List Value} (hci : ci < 13) (hf : zlk (zFt M) pc = some (p0, .new idx, nx, lv, t)) (hr : zKL[t]? = some ((zNm M).cls, idx, (zcl ci).1)) (hfs : ∀ j, j < (zcl ci).2.2.1 → defaultValue ((zcl ci).2.2.2 j) = vp_V fs j) (hlim : zLim X (znew h (.inr (ci, fs)) (zcl ci).2.2.1)) (kk : Z X M f (znew h (.inr (ci, fs)) (zcl ci).2.2.1) nx L (.ref h.2.1 :: st) Q) : Z X M f h pc L st Q := by
  intro p ev s m args below meth c H locs ls E hR hn hk0 hlo hl
  obtain ⟨hG, hM, hx, hb, -, -, -, hown, hW, -⟩ := id E
  obtain ⟨d, rfl, -⟩ := zdn hM hf (n := 2) rfl
  have hcl := zcl_ok ci hci
  have hts : ∀ w ∈ u_ws (zcl ci).1 (zcl ci).2.1 (zcl ci).2.2.1, w.before args s = true := fun w hw => zw hG hW (hcl.2.1 w hw) (zgl hw)
  have hKn := (zKs hG hW).1 ci _ hcl.1
  have l1 : h.2.1 + 1 ≤ zB X + 601024 := hlim.1
  have l2 : h.2.2 + (zcl ci).2.2.1 ≤ 7293000 := hlim.2
  have r1 := hR.1
  have r2 := hR.2.1
  refine W.newcK hx hb hown (zw hG hW (zKL_in hr) rfl) (zw hG hW (zcn ci hci).1 rfl) (zw hG hW (zcn ci hci).2 rfl) rfl d (by show _ ≤ zB X + 601024 - f.2.2.1; omega) (by show _ ≤ 7293000 - f.2.2.2; omega) hKn.2.1 hR.1 fun H1 kC hkC e1 z1 o1 => ?_
  have g9 := kk p ev s m args below meth c H1 locs ls E (hR.new _ (⟨_, hcl.1, (u_born (zcl ci).2.2.2 hts (fun w hw => hw) hKn hkC e1 hcl.2.2.1).to hfs⟩ : va_at (zD X) vwCl (h.2.1, .inr (ci, fs)) H1) (by omega) (fun q hq => o1 q (by omega)) hlim) (by show _ ≤ h.2.1 + 1; omega) (by show _ ≤ h.2.2 + (zcl ci).2.2.1; omega) hlo hl
  have e8 : h.2.1 - f.2.2.1 + 1 = (znew h (.inr (ci, fs)) (zcl ci).2.2.1).2.1 - f.2.2.1 := by show _ = h.2.1 + 1 - f.2.2.1; omega
  have e9 : h.2.2 - f.2.2.2 + (zcl ci).2.2.1 = (znew h (.inr (ci, fs)) (zcl ci).2.2.1).2.2 - f.2.2.2 := by show _ = h.2.2 + (zcl ci).2.2.1 - f.2.2.2; omega
  rw [e8, e9]
  exact g9
end ZH
