def zPush (X : zCx) (h : zHp) (a d : Nat) (mc : Int32) (n cap : Nat) (g : Nat → Option Nat) (b : Nat) : zHp :=
  if n < cap then zset (zset h d (zOb X cap (va_up g n (some b)))) a (zLc mc d (n + 1)) else zset (znew h (zOb X (zgrow cap) (va_up (fun i => if i < cap then g i else none) n (some b))) (zgrow cap)) a (zLc mc h.2.1 (n + 1))
def zRem (g : Nat → Option Nat) (i n : Nat) : Nat → Option Nat := va_up (va_cpy g g (i + 1) i (n - 1 - i)) (n - 1) none
def zClr (X : zCx) (h : zHp) (a d : Nat) (mc : Int32) (n cap : Nat) (g : Nat → Option Nat) : zHp := if cap = 0 then zset h a (zLc mc d 0) else zset (zset h d (zOb X cap (fun j => if j < n then none else g j))) a (zLc mc d 0)
/-- what an added element may cost -/
def zLimP (X : zCx) (h : zHp) (n cap : Nat) : Prop := n = cap → zLim X (znew h (zOb X (zgrow cap) (fun _ => none)) (zgrow cap))
theorem zset_same {h : zHp} {a : Nat} {e : va_E} (q : h.1 a = some e) : zset h a e = h := by
  refine Prod.ext (funext fun b => ?_) rfl
  by_cases c : b = a
  · rw [c, zset_at, q]
  · rw [zset_ne _ _ c]
theorem zset_new (h : zHp) (e e' : va_E) (k : Nat) : zset (znew h e k) h.2.1 e' = znew h e' k := by
  refine Prod.ext (funext fun b => ?_) rfl
  by_cases c : b = h.2.1
  · rw [c, zset_at, znew_at]
  · rw [zset_ne _ _ c, znew_ne _ _ _ c, znew_ne _ _ _ c]
theorem znew_set (h : zHp) {a : Nat} (e e' : va_E) (k : Nat) (c : a ≠ h.2.1) : znew (zset h a e) e' k = zset (znew h e' k) a e := by
  refine Prod.ext (funext fun b => ?_) rfl
  show (if b = h.2.1 then some e' else (if b = a then some e else h.1 b)) = (if b = a then some e else (if b = h.2.1 then some e' else h.1 b))
  by_cases q : b = a
  · subst q; rw [if_neg c, if_pos rfl, if_pos rfl]
  · rw [if_neg q, if_neg q]
section ZPU
variable {X : zCx} {h : zHp}
theorem zAl_ne {a d : Nat} {mc : Int32} {n cap : Nat} {g : Nat → Option Nat} (h1 : h.1 a = some (zLc mc d n)) (h2 : h.1 d = some (zOb X cap g)) : a ≠ d := by
  rintro rfl
  rw [h1] at h2
  cases h2
theorem zc0 : zcast 0 "java/lang/Object" = false := by decide +kernel
theorem zOb_ne {a b d ci : Nat} {mc : Int32} {n : Nat} {fs : List Value} (h1 : h.1 a = some (zLc mc d n)) (h2 : h.1 b = some (.inr (ci, fs))) (h3 : zcast ci "java/lang/Object" = true) : b ≠ a := by
  rintro rfl
  rw [h1] at h2
  cases h2
  rw [zc0] at h3
  cases h3
theorem zEl_set {a d : Nat} {mc : Int32} {n lo m : Nat} {g : Nat → Option Nat} {c : va_E} (h1 : h.1 a = some (zLc mc d n)) (hel : zEl h g lo m) : zEl (zset h a c) g lo m := by
  intro i k1 k2 y hy
  obtain ⟨ci', fs', r1, r2⟩ := hel i k1 k2 y hy
  exact ⟨ci', fs', by rw [zset_ne _ _ (zOb_ne h1 r1 r2)]; exact r1, r2⟩
theorem zPush_set {a d : Nat} {mc : Int32} {n cap : Nat} {g : Nat → Option Nat} {b : Nat} {c : va_E} (h1 : a ≠ d ∨ cap ≤ n) (h2 : a ≠ h.2.1) : zPush X (zset h a c) a d mc n cap g b = zPush X h a d mc n cap g b := by
  unfold zPush
  split
  · rw [zset_comm _ _ _ (h1.resolve_right (by omega)), zset_set]
  · rw [znew_set _ _ _ _ h2, zset_set]
    rfl
theorem c_add3 (G : zG X) {a d n cap b ci : Nat} {mc : Int32} {g : Nat → Option Nat} {fs : List Value} (hA : zAl X h a d mc n cap g) (hob : h.1 b = some (.inr (ci, fs))) (hcs : zcast ci "java/lang/Object" = true) (hel : zEl h g 0 cap) (hlim : zLimP X h n cap) : ZM X MJx4a65c_add_72be8 5 235 [.ref a, .ref b, .ref d, .int (nI n)] h (zX (zPush X h a d mc n cap g b) none) := by
  obtain ⟨q1, q2, q3, q4⟩ := id hA
  refine zm_of_z G KJx4a65c_add_72be8 rfl rfl ?_
  refine z_wf fun wf _ => ?_
  refine z_go 90 rfl ?_
  refine zD_len q2 rfl ?_
  have hz : 0 < zgrow cap ∧ cap < zgrow cap := by rcases zgrow_b q4 with c | c <;> omega
  refine z_br rfl rfl (fun c => ?_) (fun c => ?_) <;> (try dsimp only at c)
  · rw [n_eq (by omega) (by omega)] at c
    obtain ⟨q2, -⟩ | ⟨q2, q5⟩ := q2
    · omega
    refine z_go 90 rfl ?_
    refine z_oast n q5 hob hcs rfl (i_nI (by omega)) (by omega) ?_
    refine z_go 90 rfl ?_
    have hne := zAl_ne q1 q5
    rw [n_succ]
    refine z_put (show (zset h _ _).1 a = _ by rw [zset_ne _ _ hne]; exact q1) rfl rfl rfl rfl rfl rfl (by simp) ?_
    exact z_vret rfl rfl ⟨by unfold zPush; rw [if_pos (by omega)]; rfl, rfl⟩
  · rw [n_eq (by omega) (by omega)] at c
    subst c
    have hne : a ≠ h.2.1 := by have := (wf a _ q1).2; omega
    have hnb : b ≠ h.2.1 := by have := (wf b _ hob).2; omega
    refine z_go 90 rfl ?_
    refine z_cV q1 (c_grow0 G hA hel (hlim rfl)) KJx4a65c_grow_d5877 IJx4a65c_grow_d5877 VJx4a65c_grow_d5877 rfl rfl rfl PJx4a65c_grow_d5877 rfl rfl rfl rfl ?_
    refine z_go 90 rfl ?_
    have e := zOb_ne q1 hob hcs
    refine z_oast n (show (zset _ a _).1 h.2.1 = _ by rw [zset_ne _ _ (Ne.symm hne), znew_at]) (show (zset _ a _).1 b = _ by rw [zset_ne _ _ e, znew_ne _ _ _ hnb]; exact hob) hcs rfl (i_nI (by omega)) hz.2 ?_
    refine z_go 90 rfl ?_
    rw [n_succ]
    refine z_put (show (zset (zset _ a _) _ _).1 a = _ by rw [zset_ne _ _ hne, zset_at]) rfl rfl rfl rfl rfl rfl (by simp) ?_
    exact z_vret rfl rfl ⟨by unfold zPush; rw [if_neg (by omega), zset_comm _ _ _ (Ne.symm hne), zset_set, zset_comm _ _ _ hne, zset_new]; rfl, rfl⟩
/-- add(b) -/
theorem c_add (G : zG X) {a d n cap b ci : Nat} {mc : Int32} {g : Nat → Option Nat} {fs : List Value} (hA : zAl X h a d mc n cap g) (hob : h.1 b = some (.inr (ci, fs))) (hcs : zcast ci "java/lang/Object" = true) (hel : zEl h g 0 cap) (hlim : zLimP X h n cap) : ZM X MJx4a65c_add_9ea2d 6 262 [.ref a, .ref b] h (zX (zPush X h a d (mc + 1) n cap g b) (some (.int 1))) := by
  obtain ⟨q1, q2, q3, q4⟩ := id hA
  have hba := zOb_ne q1 hob hcs
  refine zm_of_z G KJx4a65c_add_9ea2d rfl rfl ?_
  refine z_wf fun wf _ => ?_
  have hne : a ≠ h.2.1 := by have := (wf a _ q1).2; omega
  refine z_go 90 rfl ?_
  refine z_get q1 rfl rfl rfl rfl ?_
  refine z_go 90 rfl ?_
  refine z_put q1 rfl rfl rfl rfl rfl rfl (by simp) ?_
  refine z_go 90 rfl ?_
  refine z_get (zset_at _ _ _) rfl rfl rfl rfl ?_
  refine z_go 90 rfl ?_
  refine z_get (zset_at _ _ _) rfl rfl rfl rfl ?_
  have hnd : a ≠ d ∨ cap ≤ n := by
    obtain ⟨q2, -⟩ | ⟨q2, q5⟩ := q2
    · right; omega
    · exact Or.inl (zAl_ne q1 q5)
  have hA' : zAl X (zset h a (.inr (0, [.int (mc + 1), .ref d, .int (nI n)]))) a d (mc + 1) n cap g := ⟨zset_at _ _ _, by
    obtain ⟨q2, q6⟩ | ⟨q2, q5⟩ := q2
    · exact Or.inl ⟨q2, q6⟩
    · exact Or.inr ⟨q2, by rw [zset_ne _ _ (Ne.symm (zAl_ne q1 q5))]; exact q5⟩, q3, q4⟩
  refine z_cV (zset_at _ _ _) (c_add3 G hA' (by rw [zset_ne _ _ hba]; exact hob) hcs (zEl_set q1 hel) (fun e => hlim e)) KJx4a65c_add_72be8 IJx4a65c_add_72be8 VJx4a65c_add_72be8 rfl rfl rfl PJx4a65c_add_72be8 rfl rfl rfl rfl ?_
  refine z_go 90 rfl ?_
  exact z_zret rfl rfl rfl ⟨zPush_set hnd hne, rfl⟩
theorem c_fastRm (G : zG X) {a d n cap i : Nat} {mc : Int32} {g : Nat → Option Nat} (hA : zAl X h a d mc n cap g) (hi : i < n) (hel : zEl h g 0 cap) : ZM X MJx4a65c_fastRemove_b59b0 1 127 [.ref a, .ref d, .int (nI i)] h (zX (zset (zset h d (zOb X cap (zRem g i n))) a (zLc (mc + 1) d (n - 1))) none) := by
  obtain ⟨q1, q2, q3, q4⟩ := id hA
  obtain ⟨q2, -⟩ | ⟨q2, q5⟩ := q2
  · omega
  have hne := zAl_ne q1 q5
  have e1 : nI n - 1 = nI (n - 1) := by
    apply i_ext
    have e2 := i_nI (n := n - 1) (by omega)
    have e3 := i_nI (n := n) (by omega)
    have e4 : (1 : Int32).toInt = 1 := rfl
    rw [i_sub] <;> omega
  refine zm_of_z G KJx4a65c_fastRemove_b59b0 rfl rfl ?_
  refine z_go 90 rfl ?_
  refine z_get q1 rfl rfl rfl rfl ?_
  refine z_go 90 rfl ?_
  refine z_put q1 rfl rfl rfl rfl rfl rfl (by simp) ?_
  refine z_go 90 rfl ?_
  refine z_get (zset_at _ _ _) rfl rfl rfl rfl ?_
  refine z_go 90 rfl ?_
  rw [e1]
  have q6 : (zset h a (zLc (mc + 1) d n)).1 d = some (zOb X cap g) := by rw [zset_ne _ _ (Ne.symm hne)]; exact q5
  refine z_br rfl rfl (fun c => ?_) (fun c => ?_) <;> (try dsimp only at c)
  · rw [n_le (by omega) (by omega)] at c
    refine z_go 90 rfl ?_
    refine z_put (zset_at _ _ _) rfl rfl rfl rfl rfl rfl (by simp) ?_
    refine z_go 90 rfl ?_
    refine z_oastN (n - 1) (show (zset (zset h _ _) _ _).1 d = _ by rw [zset_ne _ _ (Ne.symm hne)]; exact q6) rfl (i_nI (by omega)) (by omega) ?_
    refine z_vret rfl rfl ⟨?_, rfl⟩
    rw [zset_set, zset_comm _ _ _ hne]
    have e9 : zRem g i n = va_up g (n - 1) none := by
      unfold zRem
      refine congrArg (fun z => va_up z (n - 1) none) (funext fun k => ?_)
      unfold va_cpy
      rw [if_neg (by omega)]
    rw [e9]
    rfl
  · rw [n_le (by omega) (by omega)] at c
    refine z_go 90 rfl ?_
    have e2 : nI (n - 1) - nI i = nI (n - 1 - i) := by
      apply i_ext
      have e2 := i_nI (n := n - 1) (by omega)
      have e3 := i_nI (n := i) (by omega)
      have e5 := i_nI (n := n - 1 - i) (by omega)
      rw [i_sub] <;> omega
    rw [e2, n_succ]
    refine z_cpO (i + 1) i (n - 1 - i) q6 q6 (zEl_set q1 (fun k h1 h2 y hy => hel k (by omega) (by omega) y hy)) rfl rfl (i_nI (by omega)) (i_nI (by omega)) (i_nI (by omega)) (by omega) (by omega) rfl rfl rfl ?_
    refine z_go 90 rfl ?_
    refine z_put (show (zset (zset h _ _) _ _).1 a = _ by rw [zset_ne _ _ hne, zset_at]) rfl rfl rfl rfl rfl rfl (by simp) ?_
    refine z_go 90 rfl ?_
    refine z_oastN (n - 1) (show (zset (zset (zset h _ _) _ _) _ _).1 d = _ by rw [zset_ne _ _ (Ne.symm hne), zset_at]) rfl (i_nI (by omega)) (by omega) ?_
    refine z_vret rfl rfl ⟨?_, rfl⟩
    rw [zset_comm _ _ _ hne, zset_set, zset_comm h _ _ hne, zset_set]
    rfl
theorem c_remove (G : zG X) {a d n cap i b : Nat} {mc : Int32} {g : Nat → Option Nat} (hA : zAl X h a d mc n cap g) (hi : i < n) (hel : zEl h g 0 cap) (hb : g i = some b) : ZM X MJx4a65c_remove_915e3 2 154 [.ref a, .int (nI i)] h (zX (zset (zset h d (zOb X cap (zRem g i n))) a (zLc (mc + 1) d (n - 1))) (some (.ref b))) := by
  obtain ⟨q1, q2, q3, q4⟩ := id hA
  obtain ⟨q2, -⟩ | ⟨q2, q5⟩ := q2
  · omega
  have e1 := i_nI (n := i) (by omega)
  have e2 := i_nI (n := n) (by omega)
  refine zm_of_z G KJx4a65c_remove_915e3 rfl rfl ?_
  refine z_go 90 rfl ?_
  refine z_get q1 rfl rfl rfl rfl ?_
  refine z_cS (c_chk G (nI i) (nI n) (by omega) (by omega)) KJ15_checkIndex_7cf53 SJ15_checkIndex_7cf53 rfl rfl PJ15_checkIndex_7cf53 rfl rfl rfl rfl ?_
  refine z_go 90 rfl ?_
  refine z_get q1 rfl rfl rfl rfl ?_
  refine z_go 90 rfl ?_
  refine z_oald i q5 rfl e1 (by omega) ?_
  rw [hb]
  refine z_go 90 rfl ?_
  refine z_cV q1 (c_fastRm G hA hi hel) KJx4a65c_fastRemove_b59b0 IJx4a65c_fastRemove_b59b0 VJx4a65c_fastRemove_b59b0 rfl rfl rfl PJx4a65c_fastRemove_b59b0 rfl rfl rfl rfl ?_
  refine z_go 90 rfl ?_
  exact z_aret (r := some b) rfl rfl (Or.inl ⟨_, rfl⟩) ⟨rfl, rfl⟩
theorem c_clear (G : zG X) {a d n cap : Nat} {mc : Int32} {g : Nat → Option Nat} (hA : zAl X h a d mc n cap g) : ZM X MJx4a65c_clear_da8c8 0 100 [.ref a] h (zX (zClr X h a d (mc + 1) n cap g) none) := by
  obtain ⟨q1, q2, q3, q4⟩ := id hA
  refine zm_of_z G KJx4a65c_clear_da8c8 rfl rfl ?_
  refine z_go 90 rfl ?_
  refine z_get q1 rfl rfl rfl rfl ?_
  refine z_go 90 rfl ?_
  refine z_put q1 rfl rfl rfl rfl rfl rfl (by simp) ?_
  refine z_go 90 rfl ?_
  refine z_get (zset_at _ _ _) rfl rfl rfl rfl ?_
  refine z_go 90 rfl ?_
  refine z_get (zset_at _ _ _) rfl rfl rfl rfl ?_
  refine z_go 90 rfl ?_
  refine z_put (zset_at _ _ _) rfl rfl rfl rfl rfl rfl (by simp) ?_
  refine z_go 90 rfl ?_
  obtain ⟨q2, -⟩ | ⟨q2, q5⟩ := q2
  · have : n = 0 := by omega
    subst this
    refine z_br rfl rfl (fun c => ?_) (fun c => ?_) <;> (try dsimp only at c)
    · refine z_vret rfl rfl ⟨?_, rfl⟩
      unfold zClr
      rw [if_pos q2, zset_set]
      rfl
    · exact absurd (by decide) c
  have hne := zAl_ne q1 q5
  have H : ∀ r k, r = n - k → k ≤ n → Z X MJx4a65c_clear_da8c8 (0, 100, h.2.1, h.2.2) (zset (zset h d (zOb X cap (fun j => if j < k then none else g j))) a (zLc (mc + 1) d 0)) 29 [some (.ref a), some (.ref d), some (.int (nI n)), some (.int (nI k))] [.int (nI n), .int (nI k)] (zX (zClr X h a d (mc + 1) n cap g) none) := by
    intro r
    induction r with
    | zero =>
      intro k hr hk
      have : k = n := by omega
      subst this
      refine z_br rfl rfl (fun c => ?_) (fun c => ?_) <;> (try dsimp only at c)
      · refine z_vret rfl rfl ⟨?_, rfl⟩
        unfold zClr
        rw [if_neg (by omega)]
      · rw [n_le (by omega) (by omega)] at c
        omega
    | succ r ih =>
      intro k hr hk
      refine z_br rfl rfl (fun c => ?_) (fun c => ?_) <;> (try dsimp only at c)
      · rw [n_le (by omega) (by omega)] at c
        omega
      · refine z_go 90 rfl ?_
        refine z_oastN k (show (zset (zset h _ _) _ _).1 d = _ by rw [zset_ne _ _ (Ne.symm hne), zset_at]) rfl (i_nI (by omega)) (by omega) ?_
        refine z_go 90 rfl ?_
        rw [zset_comm _ _ _ hne, zset_set, n_succ]
        have e9 : va_up (fun j => if j < k then none else g j) k none = (fun j => if j < k + 1 then none else g j) := by
          funext j
          show (if j = k then none else if j < k then none else g j) = _
          by_cases c1 : j = k
          · rw [if_pos c1, if_pos (by omega)]
          · by_cases c2 : j < k
            · rw [if_neg c1, if_pos c2, if_pos (by omega)]
            · rw [if_neg c1, if_neg c2, if_neg (by omega)]
        rw [e9]
        exact ih (k + 1) (by omega) (by omega)
  have h0 := H n 0 (by omega) (by omega)
  rw [show (fun j => if j < 0 then none else g j) = g from funext fun j => if_neg (by omega), zset_same q5] at h0
  rw [zset_set]
  exact h0
end ZPU
