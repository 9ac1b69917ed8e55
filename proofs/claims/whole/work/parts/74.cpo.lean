theorem upd_at (f : Nat → Int32) (k : Nat) (x : Int32) : upd f k x k = x := if_pos rfl
theorem upd_ne {f : Nat → Int32} {k j : Nat} {x : Int32} (c : j ≠ k) : upd f k x j = f j := if_neg c
section ZPO
variable {X : zCx} {M : zMI} {f : zFr} {h : zHp} {pc : Nat} {L : zLo} {Q : zRs → zHp → Prop}
/-- a virtual call whose end is one value, the heap as P says -/
theorem z_cVP {P : zHp → Prop} {M' : zMI} {fr lo b ci : Nat} {fs As st stk : List Value} {v : Option Value} {p0 idx nx t : Nat} {lv : Int32} (hob : h.1 b = some (.inr (ci, fs))) (hM : ZM X M' fr lo (.ref b :: As) h (fun r h' => r = .inl v ∧ P h')) (hK : zMK M') (hin : Jvm.Cond.instanceMethod (zNm M') ∈ lw_tbl) (hse : Jvm.Cond.selects (zcl ci).1 (zNm M') (zNm M') ∈ lw_tbl) (hci : Nat.ble (ci + 1) 13 = true) (hf : zlk (zFt M) pc = some (p0, .invokevirtual idx, nx, lv, t)) (hr : zML[t]? = some ((zNm M).cls, idx, zNm M')) (hln : (parseMethodDescriptor (zNm M').desc).map (fun d => d.parameters.length) = some As.length) (hfr : Nat.ble (fr + 1) f.1 = true) (hlc : Nat.ble (8 + (zNL M' + 11) + lo) f.2.1 = true) (hstk : zap (.ref b :: As) st = stk) (hw : Nat.ble (zcat st) 8 = true)
    (kk : ∀ h', P h' → Z X M f h' nx L (v.toList ++ st) Q) : Z X M f h pc L stk Q :=
  z_invV hM hK hob (Nat.le_of_ble_eq_true hci) hin hse hf hr hln hfr hlc hstk hw (fun v' h' q => by obtain ⟨q1, q2⟩ := q; cases q1; exact kk h' q2) (fun E h' q => by cases q.1)
/-- a virtual call that may throw or return, out of a method without handlers -/
theorem z_cVB {P : Option Value → zHp → Prop} {P2 : String → zHp → Prop} {M' : zMI} {fr lo b ci : Nat} {fs As st stk : List Value} {p0 idx nx t : Nat} {lv : Int32} (hob : h.1 b = some (.inr (ci, fs))) (hM : ZM X M' fr lo (.ref b :: As) h (fun r h' => (∃ v, r = .inl v ∧ P v h') ∨ ∃ E, r = .inr E ∧ P2 E h')) (hK : zMK M') (hin : Jvm.Cond.instanceMethod (zNm M') ∈ lw_tbl) (hse : Jvm.Cond.selects (zcl ci).1 (zNm M') (zNm M') ∈ lw_tbl) (hci : Nat.ble (ci + 1) 13 = true) (hf : zlk (zFt M) pc = some (p0, .invokevirtual idx, nx, lv, t)) (hr : zML[t]? = some ((zNm M).cls, idx, zNm M')) (hln : (parseMethodDescriptor (zNm M').desc).map (fun d => d.parameters.length) = some As.length) (hfr : Nat.ble (fr + 1) f.1 = true) (hlc : Nat.ble (8 + (zNL M' + 11) + lo) f.2.1 = true) (hstk : zap (.ref b :: As) st = stk) (hw : Nat.ble (zcat st) 8 = true) (hh : zHh M = [])
    (kk : ∀ v h', P v h' → Z X M f h' nx L (v.toList ++ st) Q) (hq : ∀ E h', P2 E h' → Q (.inr E) h') : Z X M f h pc L stk Q :=
  z_invV hM hK hob (Nat.le_of_ble_eq_true hci) hin hse hf hr hln hfr hlc hstk hw (fun v' h' q => by
    obtain ⟨v, q1, q2⟩ | ⟨E, q1, q2⟩ := q
    · cases q1; exact kk v' h' q2
    · cases q1) (fun E h' q => by
    obtain ⟨v, q1, q2⟩ | ⟨E, q1, q2⟩ := q
    · cases q1
    · cases q1; exact zt_out hh (hq _ _ q2))
theorem zAl_new {a d n cap k : Nat} {mc : Int32} {g : Nat → Option Nat} {e : va_E} (A : zAl X h a d mc n cap g) (wf : ∀ a e, h.1 a = some e → a < h.2.1) : zAl X (znew h e k) a d mc n cap g := by
  obtain ⟨q1, q2, q3, q4⟩ := A
  refine ⟨by rw [znew_ne _ _ _ (by have := wf _ _ q1; omega)]; exact q1, ?_, q3, q4⟩
  obtain ⟨q2, q6⟩ | ⟨q2, q5⟩ := q2
  · exact Or.inl ⟨q2, q6⟩
  · exact Or.inr ⟨q2, by rw [znew_ne _ _ _ (by have := wf _ _ q5; omega)]; exact q5⟩
theorem zEl_new {lo m k : Nat} {g : Nat → Option Nat} {e : va_E} (hel : zEl h g lo m) (wf : ∀ a e, h.1 a = some e → a < h.2.1) : zEl (znew h e k) g lo m := by
  intro i k1 k2 y hy
  obtain ⟨ci', fs', r1, r2⟩ := hel i k1 k2 y hy
  exact ⟨ci', fs', by rw [znew_ne _ _ _ (by have := wf _ _ r1; omega)]; exact r1, r2⟩
end ZPO
theorem zes_push {S S' : zS} {D D' : Nat → Nat → Nat} {K K' : Nat → Nat → Nat} {r i n b : Nat} (hn : zln S K r i = n) (hn' : zln S' K' r i = n + 1) (he : ∀ j, j < n → zel S' D' K' r i j = zel S D K r i j) (hb : zel S' D' K' r i n = b) : va_up (zes S D K r i) n (some b) = zes S' D' K' r i := by
  funext j
  unfold zes
  rw [hn, hn']
  show (if j = n then some b else if j < n then some (zel S D K r i j) else none) = _
  by_cases c : j = n
  · subst c
    rw [if_pos rfl, if_pos (by omega), hb]
  · rw [if_neg c]
    by_cases c2 : j < n
    · rw [if_pos c2, if_pos (by omega), he j c2]
    · rw [if_neg c2, if_neg (by omega)]
theorem zes_none {S : zS} {D K : Nat → Nat → Nat} {r i j : Nat} (h : zln S K r i ≤ j) : zes S D K r i j = none := if_neg (by omega)
theorem zgrow_l {cap : Nat} (h : cap ≤ 1000) : cap + 1 ≤ zgrow cap ∧ zgrow cap ≤ 1600 := by unfold zgrow; split <;> (try split) <;> omega
theorem n_toNat {n : Nat} (h : n < 2147483648) : (nI n).toInt.toNat = n := by rw [i_nI h, Int.toNat_natCast]
section ZSL
variable {X : zCx} {F : Nat → Option va_E} {o p q : Nat} {S S' : zS} {D : Nat → Nat → Nat} {W : Nat → Nat → Int32} {K : Nat → Nat → Nat} {h : zHp}
theorem zSt_24 (R : zSt X F o S D W K h p q) : K 24 0 ≤ 1600 := (R.1.2.2 23 0 (Or.inl ⟨rfl, by decide⟩)).2.2
theorem zSt_lim (R : zSt X F o S D W K h p q) (hp : p ≤ 500000 ∧ q ≤ 7000000) : h.2.1 + 50000 ≤ zB X + 601024 ∧ h.2.2 + 200000 ≤ 7293000 := by
  have := zSt_24 R
  have := R.2.2.2.2
  omega
theorem zSt_le {p' q' : Nat} (R : zSt X F o S D W K h p q) (hp : p ≤ p') (hq : q ≤ q') : zSt X F o S D W K h p' q' := by
  obtain ⟨a, b, c, d, e, f⟩ := R
  exact ⟨a, b, c, d, by omega, by omega⟩
theorem zSt_add (R : zSt X F o S D W K h p q) (c k : Nat) : zSt X F o S D W K (zadd h c k) (p + c) (q + k) := by
  obtain ⟨a, b, c1, d, e, f⟩ := R
  exact ⟨a, b, c1, d, by show h.2.1 + c ≤ _; omega, by show h.2.2 + k ≤ _; omega⟩
theorem zSt_0 (R : zSt X F o S D W K h p q) : h.1 o = some (.inr (11, [.ref (D 1 0), .ref (D 4 0), .ref (D 8 0), .ref (D 15 0), .ref (D 22 0), .ref (D 25 0)])) := by
  rw [← R.2.1.1]
  exact zRel_0 R.1
/-- what only the reference has is changed -/
theorem zSt_same (A : List Nat) (R : zSt X F o S D W K h p q) (hS : ∀ k, zno A k → S' k = S k) (hA : ∀ r, r < 28 → zhk A [] [] [] r = true) (h23 : sN S' 23 0 = sN S 23 0) : zSt X F o S' D W K h p q :=
  zSt_mk A [] [] [] R (zSt_W R) hS (fun _ _ => rfl) (fun _ _ => rfl) (fun _ _ => rfl) zK1_r (fun r i h28 hc _ => by rw [hA r h28] at hc; cases hc) (fun r i h28 hc _ => by rw [hA r h28] at hc; cases hc) rfl (fun j hj => by rw [h23]; exact R.2.2.1 j hj) R.2.2.2.2
theorem zSt_T (R : zSt X F o S D W K h p q) (w : Int32) : zSt X F o (sThrow S w) D W K h p q := zSt_same [0] R (fun k ⟨a, _⟩ => by simp only [sThrow, zV, a]) (by decide) rfl
theorem zSt_28 (R : zSt X F o S D W K h p q) (g : Nat → Int32) : zSt X F o (zV S 28 g) D W K h p q := zSt_same [28] R (fun k ⟨a, _⟩ => by simp only [zV, a]) (by decide) rfl
theorem zSt_29 (R : zSt X F o S D W K h p q) (g : Nat → Int32) : zSt X F o (zV S 29 g) D W K h p q := zSt_same [29] R (fun k ⟨a, _⟩ => by simp only [zV, a]) (by decide) rfl
theorem zSt_S (R : zSt X F o S D W K h p q) (g : Nat → Int32) : zSt X F o (zV S 4 g) D W K (zset h (D 3 0) (zI X (sN S 1 0 / 8) g)) p q :=
  zSt_mk [4] [] [] [] R (zW_put (zSt_W R) (r := 3) (i := 0) (Or.inl ⟨rfl, by decide⟩) _) (fun k ⟨a, _⟩ => by simp only [zV, a]) (fun _ _ => rfl) (fun _ _ => rfl) (fun _ _ => rfl) (zK1_u rfl zK1_r) (fun r i h28 hc hv => by
    have e : r = 3 := (by decide : ∀ r, r < 28 → zhk [4] [] [] [] r = false → r = 3) r h28 hc
    subst e
    obtain ⟨rfl, -⟩ := id hv
    exact ⟨Or.inl hv, u2_at _ _ _ _⟩) (fun r i h28 hc hl => by
    have e : r = 3 := (by decide : ∀ r, r < 28 → zhk [4] [] [] [] r = false → r = 3) r h28 hc
    subst e
    rcases hl with ⟨-, z⟩ | ⟨z, -⟩ <;> omega) rfl R.2.2.1 R.2.2.2.2
theorem zSt_B (R : zSt X F o S D W K h p q) (g : Nat → Int32) : zSt X F o (zV S 3 g) D W K (zset h (D 2 0) (zI X (sN S 1 0) (gM (zV S 3 g)))) p q :=
  zSt_mk [3] [] [] [] R (zW_put (zSt_W R) (r := 2) (i := 0) (Or.inl ⟨rfl, by decide⟩) _) (fun k ⟨a, _⟩ => by simp only [zV, a]) (fun _ _ => rfl) (fun _ _ => rfl) (fun _ _ => rfl) (zK1_u rfl zK1_r) (fun r i h28 hc hv => by
    have e : r = 2 := (by decide : ∀ r, r < 28 → zhk [3] [] [] [] r = false → r = 2) r h28 hc
    subst e
    obtain ⟨rfl, -⟩ := id hv
    exact ⟨Or.inl hv, u2_at _ _ _ _⟩) (fun r i h28 hc hl => by
    have e : r = 2 := (by decide : ∀ r, r < 28 → zhk [3] [] [] [] r = false → r = 2) r h28 hc
    subst e
    rcases hl with ⟨-, z⟩ | ⟨z, -⟩ <;> omega) rfl R.2.2.1 R.2.2.2.2
end ZSL
def zPo (X : zCx) (F : Nat → Option va_E) (o : Nat) (v : Option Value) (S' : zS) (p q : Nat) : zRs → zHp → Prop := fun r h' => r = .inl v ∧ ∃ D W K, zSt X F o S' D W K h' p q
def zPx (X : zCx) (F : Nat → Option va_E) (o : Nat) (E : String) (S' : zS) (p q : Nat) : zRs → zHp → Prop := fun r h' => r = .inr E ∧ ∃ D W K, zSt X F o S' D W K h' p q
section ZNW
theorem zn_8 (j : Nat) (hj : j < (zcl 8).2.2.1) : defaultValue ((zcl 8).2.2.2 j) = vp_V [.int 0, .int 0, .int 0, .int 0, .int 0, .int 0, .int 0] j := by
  have hj : j < 7 := hj
  match j, hj with
  | 0, _ => rfl
  | 1, _ => rfl
  | 2, _ => rfl
  | 3, _ => rfl
  | 4, _ => rfl
  | 5, _ => rfl
  | 6, _ => rfl
theorem zn_9 (j : Nat) (hj : j < (zcl 9).2.2.1) : defaultValue ((zcl 9).2.2.2 j) = vp_V [.int 0, .int 0, .int 0, .int 0, .int 0, .int 0, .int 0, .int 0, .int 0, .int 0] j := by
  have hj : j < 10 := hj
  match j, hj with
  | 0, _ => rfl
  | 1, _ => rfl
  | 2, _ => rfl
  | 3, _ => rfl
  | 4, _ => rfl
  | 5, _ => rfl
  | 6, _ => rfl
  | 7, _ => rfl
  | 8, _ => rfl
  | 9, _ => rfl
theorem zn_10 (j : Nat) (hj : j < (zcl 10).2.2.1) : defaultValue ((zcl 10).2.2.2 j) = vp_V [.int 0, .int 0, .int 0, .int 0, .int 0, .int 0, .int 0, .int 0] j := by
  have hj : j < 8 := hj
  match j, hj with
  | 0, _ => rfl
  | 1, _ => rfl
  | 2, _ => rfl
  | 3, _ => rfl
  | 4, _ => rfl
  | 5, _ => rfl
  | 6, _ => rfl
  | 7, _ => rfl
theorem zn_1 (j : Nat) (hj : j < (zcl 1).2.2.1) : defaultValue ((zcl 1).2.2.2 j) = vp_V [.int 0, .int 0, .int 0, .int 0, .int 0, .int 0, .int 0, .int 0, .int 0, .int 0, .int 0, .int 0, .int 0] j := by
  have hj : j < 13 := hj
  match j, hj with
  | 0, _ => rfl
  | 1, _ => rfl
  | 2, _ => rfl
  | 3, _ => rfl
  | 4, _ => rfl
  | 5, _ => rfl
  | 6, _ => rfl
  | 7, _ => rfl
  | 8, _ => rfl
  | 9, _ => rfl
  | 10, _ => rfl
  | 11, _ => rfl
  | 12, _ => rfl
theorem zn_2 (j : Nat) (hj : j < (zcl 2).2.2.1) : defaultValue ((zcl 2).2.2.2 j) = vp_V [.int 0, .int 0, .null] j := by
  have hj : j < 3 := hj
  match j, hj with
  | 0, _ => rfl
  | 1, _ => rfl
  | 2, _ => rfl
theorem zn_0 (j : Nat) (hj : j < (zcl 0).2.2.1) : defaultValue ((zcl 0).2.2.2 j) = vp_V [.int 0, .null, .int 0] j := by
  have hj : j < 3 := hj
  match j, hj with
  | 0, _ => rfl
  | 1, _ => rfl
  | 2, _ => rfl
theorem zn_7 (j : Nat) (hj : j < (zcl 7).2.2.1) : defaultValue ((zcl 7).2.2.2 j) = vp_V [.int 0, .int 0, .int 0, .null, .null] j := by
  have hj : j < 5 := hj
  match j, hj with
  | 0, _ => rfl
  | 1, _ => rfl
  | 2, _ => rfl
  | 3, _ => rfl
  | 4, _ => rfl
theorem zn_4 (j : Nat) (hj : j < (zcl 4).2.2.1) : defaultValue ((zcl 4).2.2.2 j) = vp_V [.null, .null] j := by
  have hj : j < 2 := hj
  match j, hj with
  | 0, _ => rfl
  | 1, _ => rfl
theorem zn_3 (j : Nat) (hj : j < (zcl 3).2.2.1) : defaultValue ((zcl 3).2.2.2 j) = vp_V [.null, .null] j := by
  have hj : j < 2 := hj
  match j, hj with
  | 0, _ => rfl
  | 1, _ => rfl
theorem zn_5 (j : Nat) (hj : j < (zcl 5).2.2.1) : defaultValue ((zcl 5).2.2.2 j) = vp_V [.null, .int 0, .null, .null, .null, .int 0, .int 0, .int 0] j := by
  have hj : j < 8 := hj
  match j, hj with
  | 0, _ => rfl
  | 1, _ => rfl
  | 2, _ => rfl
  | 3, _ => rfl
  | 4, _ => rfl
  | 5, _ => rfl
  | 6, _ => rfl
  | 7, _ => rfl
theorem zn_6 (j : Nat) (hj : j < (zcl 6).2.2.1) : defaultValue ((zcl 6).2.2.2 j) = vp_V [.null, .null, .null, .null, .null] j := by
  have hj : j < 5 := hj
  match j, hj with
  | 0, _ => rfl
  | 1, _ => rfl
  | 2, _ => rfl
  | 3, _ => rfl
  | 4, _ => rfl
theorem zn_11 (j : Nat) (hj : j < (zcl 11).2.2.1) : defaultValue ((zcl 11).2.2.2 j) = vp_V [.null, .null, .null, .null, .null, .null] j := by
  have hj : j < 6 := hj
  match j, hj with
  | 0, _ => rfl
  | 1, _ => rfl
  | 2, _ => rfl
  | 3, _ => rfl
  | 4, _ => rfl
  | 5, _ => rfl
end ZNW
