/-! calls whose end is one heap and one value -/
def zX (h1 : zHp) (v : Option Value) : zRs → zHp → Prop := fun r h' => h' = h1 ∧ r = .inl v
section ZC
variable {X : zCx} {M : zMI} {f : zFr} {h : zHp} {pc : Nat} {L : zLo} {Q : zRs → zHp → Prop}
theorem z_cS {M' : zMI} {fr lo : Nat} {As st stk : List Value} {h1 : zHp} {v : Option Value} {p0 idx nx t : Nat} {lv : Int32} (hM : ZM X M' fr lo As h (zX h1 v)) (hK : zMK M') (hsa : Jvm.Cond.static (zNm M') ∈ lw_tbl) (hf : zlk (zFt M) pc = some (p0, .invokestatic idx, nx, lv, t)) (hr : zML[t]? = some ((zNm M).cls, idx, zNm M')) (hln : (parseMethodDescriptor (zNm M').desc).map (fun d => d.parameters.length) = some As.length) (hfr : Nat.ble (fr + 1) f.1 = true) (hlc : Nat.ble (8 + (zNL M' + 11) + lo) f.2.1 = true) (hstk : zap As st = stk) (hw : Nat.ble (zcat st) 8 = true)
    (kk : Z X M f h1 nx L (v.toList ++ st) Q) : Z X M f h pc L stk Q :=
  z_invS hM hK hsa hf hr hln hfr hlc hstk hw (fun v' h' q => by obtain ⟨rfl, q2⟩ := q; cases q2; exact kk) (fun E h' q => by cases q.2)
theorem z_cN {M' : zMI} {fr lo : Nat} {As st stk : List Value} {h1 : zHp} {v : Option Value} {p0 idx nx t : Nat} {lv : Int32} {host : String} (hM : ZM X M' fr lo As h (zX h1 v)) (hK : zMK M') (hsa : Jvm.Cond.static (zNm M') ∈ lw_tbl) (hf : zlk (zFt M) pc = some (p0, .invokestatic idx, nx, lv, t)) (hr : zMN[t]? = some ((zNm M).cls, idx, zNm M', host)) (hln : (parseMethodDescriptor (zNm M').desc).map (fun d => d.parameters.length) = some As.length) (hfr : Nat.ble (fr + 1) f.1 = true) (hlc : Nat.ble (8 + (zNL M' + 11) + lo) f.2.1 = true) (hstk : zap As st = stk) (hw : Nat.ble (zcat st) 8 = true)
    (kk : Z X M f h1 nx L (v.toList ++ st) Q) : Z X M f h pc L stk Q :=
  z_invN hM hK hsa hf hr hln hfr hlc hstk hw (fun v' h' q => by obtain ⟨rfl, q2⟩ := q; cases q2; exact kk) (fun E h' q => by cases q.2)
theorem z_cV {M' : zMI} {fr lo b ci : Nat} {fs As st stk : List Value} {h1 : zHp} {v : Option Value} {p0 idx nx t : Nat} {lv : Int32} (hob : h.1 b = some (.inr (ci, fs))) (hM : ZM X M' fr lo (.ref b :: As) h (zX h1 v)) (hK : zMK M') (hin : Jvm.Cond.instanceMethod (zNm M') ∈ lw_tbl) (hse : Jvm.Cond.selects (zcl ci).1 (zNm M') (zNm M') ∈ lw_tbl) (hci : Nat.ble (ci + 1) 13 = true) (hf : zlk (zFt M) pc = some (p0, .invokevirtual idx, nx, lv, t)) (hr : zML[t]? = some ((zNm M).cls, idx, zNm M')) (hln : (parseMethodDescriptor (zNm M').desc).map (fun d => d.parameters.length) = some As.length) (hfr : Nat.ble (fr + 1) f.1 = true) (hlc : Nat.ble (8 + (zNL M' + 11) + lo) f.2.1 = true) (hstk : zap (.ref b :: As) st = stk) (hw : Nat.ble (zcat st) 8 = true)
    (kk : Z X M f h1 nx L (v.toList ++ st) Q) : Z X M f h pc L stk Q :=
  z_invV hM hK hob (Nat.le_of_ble_eq_true hci) hin hse hf hr hln hfr hlc hstk hw (fun v' h' q => by obtain ⟨rfl, q2⟩ := q; cases q2; exact kk) (fun E h' q => by cases q.2)
theorem z_cI {M' : zMI} {fr lo b : Nat} {As st stk : List Value} {h1 : zHp} {v : Option Value} {p0 idx nx t : Nat} {lv : Int32} (hM : ZM X M' fr lo (.ref b :: As) h (zX h1 v)) (hK : zMK M') (hin : Jvm.Cond.instanceMethod (zNm M') ∈ lw_tbl) (hhh : zHh M' = []) (hrn : zRt M' = none) (hnm : (zNm M').name = "<init>") (hf : zlk (zFt M) pc = some (p0, .invokespecial idx, nx, lv, t)) (hr : zML[t]? = some ((zNm M).cls, idx, zNm M')) (hln : (parseMethodDescriptor (zNm M').desc).map (fun d => d.parameters.length) = some As.length) (hfr : Nat.ble (fr + 1) f.1 = true) (hlc : Nat.ble (8 + (zNL M' + 11) + lo) f.2.1 = true) (hstk : zap (.ref b :: As) st = stk) (hw : Nat.ble (zcat st) 8 = true)
    (kk : Z X M f h1 nx L (v.toList ++ st) Q) : Z X M f h pc L stk Q :=
  z_invI hM hK hhh hrn hnm hin hf hr hln hfr hlc hstk hw (fun v' h' q => by obtain ⟨rfl, q2⟩ := q; cases q2; exact kk) (fun E h' q => by cases q.2)
end ZC
section ZJ2
variable {X : zCx} {h : zHp}
theorem c_min (G : zG X) (a b : Int32) : ZM X MJ9_min_7cf53 0 100 [.int a, .int b] h (zX h (some (.int (if b < a then b else a)))) := by
  refine zm_of_z G KJ9_min_7cf53 rfl rfl ?_
  refine z_go 90 rfl ?_
  refine z_br rfl rfl (fun c => ?_) (fun c => ?_) <;> (try dsimp only at c)
  · refine z_go 90 rfl ?_
    exact z_iret rfl rfl ⟨rfl, by rw [if_pos c]⟩
  · refine z_go 90 rfl ?_
    exact z_iret rfl rfl ⟨rfl, by rw [if_neg c]⟩
theorem c_abs (G : zG X) (a : Int64) : ZM X MJ9_abs_067f4 0 100 [.long a] h (zX h (some (.long (if a < 0 then -a else a)))) := by
  refine zm_of_z G KJ9_abs_067f4 rfl rfl ?_
  refine z_go 90 rfl ?_
  refine z_br rfl rfl (fun c => ?_) (fun c => ?_) <;> (try dsimp only at c)
  · refine z_go 90 rfl ?_
    rw [i_le] at c
    exact z_lret rfl rfl ⟨rfl, by rw [if_neg (fun d => by have := (lg_cmp_lt a 0).mpr d; rw [i_lt] at this; omega)]⟩
  · refine z_go 90 rfl ?_
    rw [i_le] at c
    exact z_lret rfl rfl ⟨rfl, by rw [if_pos ((lg_cmp_lt a 0).mp (by rw [i_lt]; omega))]⟩
theorem c_cmp (G : zG X) (a b : Int32) : ZM X MJ6_compare_7cf53 0 100 [.int a, .int b] h (zX h (some (.int (if a < b then -1 else if a = b then 0 else 1)))) := by
  refine zm_of_z G KJ6_compare_7cf53 rfl rfl ?_
  refine z_go 90 rfl ?_
  refine z_br rfl rfl (fun c => ?_) (fun c => ?_) <;> (try dsimp only at c)
  · refine z_go 90 rfl ?_
    rw [i_le] at c
    refine z_br rfl rfl (fun d => ?_) (fun d => ?_) <;> (try dsimp only at d)
    · refine z_go 90 rfl ?_
      exact z_iret rfl rfl ⟨rfl, by rw [if_neg (by rw [i_lt]; omega), if_neg d]⟩
    · refine z_go 90 rfl ?_
      exact z_iret rfl rfl ⟨rfl, by rw [if_neg (by rw [i_lt]; omega), if_pos d]⟩
  · refine z_go 90 rfl ?_
    rw [i_le] at c
    exact z_iret rfl rfl ⟨rfl, by rw [if_pos (by rw [i_lt]; omega)]⟩
end ZJ2
section ZWF
variable {X : zCx} {M : zMI} {f : zFr} {h : zHp} {pc : Nat} {L : zLo} {st : List Value} {Q : zRs → zHp → Prop}
/-- what may be taken of every heap that a run meets -/
theorem z_wf (k : (∀ a e, h.1 a = some e → zB X ≤ a ∧ a < h.2.1) → zLim X h → Z X M f h pc L st Q) : Z X M f h pc L st Q := by
  intro p ev s m args below meth c H locs ls E hR
  exact k (fun a e ha => ⟨(hR.2.2.2.1 a e ha).1, by have := (hR.2.2.2.1 a e ha).2.lt; have := hR.1; omega⟩) hR.2.2.2.2 p ev s m args below meth c H locs ls E hR
theorem z_ite {p : Prop} (c1 : p → Z X M f h pc L st Q) (c2 : ¬ p → Z X M f h pc L st Q) : Z X M f h pc L st Q := (Classical.em p).elim c1 c2
theorem z_alenO {a cap : Nat} {g : Nat → Option Nat} {p0 nx t : Nat} {lv : Int32} (hh : h.1 a = some (zOb X cap g)) (hf : zlk (zFt M) pc = some (p0, .arraylength, nx, lv, t)) (kk : Z X M f h nx L (.int (nI cap) :: st) Q) : Z X M f h pc L (.ref a :: st) Q := z_alen (k := 4) (by decide) hh hf kk
end ZWF
theorem n_succ (k : Nat) : nI k + 1 = nI (k + 1) := by
  unfold nI
  rw [Int32.ofNat_add]
  rfl
theorem n_lt {a b : Nat} (ha : a < 2147483648) (hb : b < 2147483648) : nI a < nI b ↔ a < b := by
  rw [i_lt, i_nI ha, i_nI hb]; omega
theorem n_le {a b : Nat} (ha : a < 2147483648) (hb : b < 2147483648) : nI a ≤ nI b ↔ a ≤ b := by
  rw [i_le, i_nI ha, i_nI hb]; omega
theorem n_eq {a b : Nat} (ha : a < 2147483648) (hb : b < 2147483648) : nI a = nI b ↔ a = b := by
  rw [i_eq, i_nI ha, i_nI hb]; omega
theorem zset_at (h : zHp) (a : Nat) (e : va_E) : (zset h a e).1 a = some e := if_pos rfl
theorem zset_ne (h : zHp) {a b : Nat} (e : va_E) (c : b ≠ a) : (zset h a e).1 b = h.1 b := if_neg c
theorem zset_set (h : zHp) (a : Nat) (e e' : va_E) : zset (zset h a e) a e' = zset h a e' := by
  unfold zset
  refine Prod.ext (funext fun b => ?_) rfl
  by_cases c : b = a <;> simp [c]
theorem zset_comm (h : zHp) {a b : Nat} (e e' : va_E) (c : a ≠ b) : zset (zset h a e) b e' = zset (zset h b e') a e := by
  unfold zset
  refine Prod.ext (funext fun q => ?_) rfl
  by_cases d : q = a
  · subst d; simp [c]
  · by_cases d' : q = b
    · subst d'; simp [d]
    · simp [d, d']
theorem znew_at (h : zHp) (e : va_E) (k : Nat) : (znew h e k).1 h.2.1 = some e := if_pos rfl
theorem znew_ne (h : zHp) {b : Nat} (e : va_E) (k : Nat) (c : b ≠ h.2.1) : (znew h e k).1 b = h.1 b := if_neg c
