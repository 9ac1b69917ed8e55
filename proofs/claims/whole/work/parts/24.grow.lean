section ZGR
variable {X : zCx} {h : zHp}
theorem zD_len {d cap : Nat} {g : Nat → Option Nat} {M : zMI} {f : zFr} {pc : Nat} {L : zLo} {st : List Value} {Q : zRs → zHp → Prop} (hd : zAr X h d cap g) {p0 nx t : Nat} {lv : Int32} (hf : zlk (zFt M) pc = some (p0, .arraylength, nx, lv, t)) (kk : Z X M f h nx L (.int (nI cap) :: st) Q) : Z X M f h pc L (.ref d :: st) Q := by
  obtain ⟨rfl, hd⟩ | ⟨-, hd⟩ := hd
  · exact z_alenD hd hf kk
  · exact z_alenO hd hf kk
theorem c_initC (G : zG X) {a : Nat} : ZM X MJxa1e45_init_da8c8 1 127 [.ref a] h (zX h none) := by
  refine zm_of_z G KJxa1e45_init_da8c8 rfl rfl ?_
  refine z_go 90 rfl ?_
  refine z_obj rfl rfl zoiI zoiC rfl rfl rfl ?_
  exact z_vret rfl rfl ⟨rfl, rfl⟩
theorem c_initL (G : zG X) {a : Nat} {x y z : Value} (hh : h.1 a = some (.inr (0, [x, y, z]))) : ZM X MJxc12de_init_da8c8 2 154 [.ref a] h (zX (zset h a (.inr (0, [.int 0, y, z]))) none) := by
  refine zm_of_z G KJxc12de_init_da8c8 rfl rfl ?_
  refine z_go 90 rfl ?_
  refine z_cI (c_initC G) KJxa1e45_init_da8c8 IJxa1e45_init_da8c8 rfl rfl rfl rfl rfl PJxa1e45_init_da8c8 rfl rfl rfl rfl ?_
  refine z_go 90 rfl ?_
  refine z_put hh rfl rfl rfl rfl rfl rfl (by simp) ?_
  exact z_vret rfl rfl ⟨rfl, rfl⟩
/-- new ArrayList() on a fresh cell -/
theorem c_initA (G : zG X) {a t0 : Nat} {x y z : Value} (hD : zDef X t0) (hh : h.1 a = some (.inr (0, [x, y, z]))) : ZM X MJx4a65c_init_da8c8 3 181 [.ref a] h (zX (zset h a (.inr (0, [.int 0, .ref t0, z]))) none) := by
  refine zm_of_z G KJx4a65c_init_da8c8 rfl rfl ?_
  refine z_go 90 rfl ?_
  refine z_cI (c_initL G hh) KJxc12de_init_da8c8 IJxc12de_init_da8c8 rfl rfl rfl rfl rfl PJxc12de_init_da8c8 rfl rfl rfl rfl ?_
  refine z_go 90 rfl ?_
  refine z_gets hD rfl rfl ?_
  refine z_put (zset_at _ _ _) rfl rfl rfl rfl rfl rfl (by simp) ?_
  exact z_vret rfl rfl ⟨by rw [zset_set]; rfl, rfl⟩
theorem c_newLen (G : zG X) (cap : Nat) (h1 : 0 < cap) (h2 : cap ≤ 2000) : ZM X MJ8_newLength_cabcc 1 127 [.int (nI cap), .int 1, .int (nI cap >>> (1 &&& 31))] h (zX h (some (.int (nI (zgrow cap))))) := by
  have hs : (nI cap >>> (1 &&& 31 : Int32)).toInt = ((cap / 2 : Nat) : Int) := by
    rw [show ((1 : Int32) &&& 31) = 1 from rfl]
    have e : (nI cap >>> (1 : Int32)).toInt = (nI cap).toInt >>> 1 := by
      show (BitVec.sshiftRight (nI cap).toBitVec 1).toInt = _
      rw [BitVec.toInt_sshiftRight]
      rfl
    rw [e, i_nI (by omega), Int.shiftRight_eq_div_pow]
    omega
  refine zm_of_z G KJ8_newLength_cabcc rfl rfl ?_
  refine z_go 90 rfl ?_
  refine z_cS (c_max G _ _) KJ9_max_7cf53 SJ9_max_7cf53 rfl rfl PJ9_max_7cf53 rfl rfl rfl rfl ?_
  have hm : (nI cap + if (1 : Int32) < nI cap >>> (1 &&& 31) then nI cap >>> (1 &&& 31) else 1) = nI (zgrow cap) := by
    have h0 : zgrow cap = cap + (if 1 < cap / 2 then cap / 2 else 1) := by unfold zgrow; rw [if_neg (by omega)]
    have h9 : (1 : Int32).toInt = 1 := rfl
    have hc := i_nI (n := cap) (by omega)
    have hc2 := i_nI (n := cap + cap / 2) (by omega)
    have hc3 := i_nI (n := cap + 1) (by omega)
    apply i_ext
    rw [h0]
    split <;> rename_i c <;> rw [i_lt] at c <;> split <;> (first | omega | (rw [i_add] <;> omega))
  refine z_go 90 rfl ?_
  rw [hm]
  have hz : zgrow cap ≤ 4000 ∧ 0 < zgrow cap := by unfold zgrow; split <;> (try split) <;> omega
  refine z_br rfl rfl (fun c => ?_) (fun c => ?_) <;> (try dsimp only at c)
  · rw [show (0 : Int32) = nI 0 from rfl, n_le (by omega) (by omega)] at c
    omega
  · refine z_go 90 rfl ?_
    refine z_ldc (v := 2147483639) rfl (z_in (List.mem_of_getElem? (i := 386) (by decide +kernel))) ?_
    refine z_br rfl rfl (fun d => ?_) (fun d => ?_) <;> (try dsimp only at d)
    · rw [i_lt, i_nI (by omega)] at d
      have : (2147483639 : Int32).toInt = 2147483639 := rfl
      omega
    · refine z_go 90 rfl ?_
      exact z_iret rfl rfl ⟨rfl, rfl⟩
theorem c_copyOf3 (G : zG X) {d cap cap' mi : Nat} {g : Nat → Option Nat} (hMi : zMi X mi) (hd : h.1 d = some (zOb X cap g)) (h1 : cap ≤ cap') (h2 : cap' ≤ 4000) (hel : zEl h g 0 cap) (hlim : zLim X (znew h (zOb X cap' (fun _ => none)) cap')) : ZM X MJ7_copyOf_6403c 1 127 [.ref d, .int (nI cap'), .ref mi] h (zX (znew h (zOb X cap' (fun i => if i < cap then g i else none)) cap') (some (.ref h.2.1))) := by
  refine zm_of_z G KJ7_copyOf_6403c rfl rfl ?_
  refine z_wf fun wf _ => ?_
  refine z_go 90 rfl ?_
  refine z_ldcM hMi rfl (z_in (List.mem_of_getElem? (i := 416) (by decide +kernel))) ?_
  refine z_br rfl rfl (fun c => ?_) (fun c => ?_) <;> (try dsimp only at c)
  · exact absurd rfl c
  · refine z_go 90 rfl ?_
    refine z_newO cap' rfl rfl (i_nI (by omega)) (by omega) hlim ?_
    refine z_go 90 rfl ?_
    have hne : d ≠ h.2.1 := by have := (wf d _ hd).2; omega
    have hd' : (znew h (zOb X cap' (fun _ => none)) cap').1 d = some (zOb X cap g) := by rw [znew_ne _ _ _ hne]; exact hd
    refine z_alenO hd' rfl ?_
    refine z_go 90 rfl ?_
    refine z_cS (c_min G _ _) KJ9_min_7cf53 SJ9_min_7cf53 rfl rfl PJ9_min_7cf53 rfl rfl rfl rfl ?_
    rw [show (if nI cap' < nI cap then nI cap' else nI cap) = nI cap by rw [if_neg]; rw [n_lt (by omega) (by omega)]; omega]
    refine z_go 90 rfl ?_
    refine z_cpO 0 0 cap hd' (znew_at _ _ _) (fun i h1 h2 y hy => ?_) rfl rfl rfl rfl (i_nI (by omega)) (by omega) (by omega) rfl rfl rfl ?_
    · obtain ⟨ci, fs, q1, q2⟩ := hel i h1 h2 y hy
      exact ⟨ci, fs, by rw [znew_ne _ _ _ (by have := (wf y _ q1).2; omega)]; exact q1, q2⟩
    refine z_go 90 rfl ?_
    refine z_aret (r := some h.2.1) rfl rfl (Or.inr ⟨_, rfl⟩) ⟨?_, rfl⟩
    refine Prod.ext (funext fun q => ?_) rfl
    by_cases e : q = h.2.1
    · subst e
      rw [zset_at, znew_at]
      refine congrArg (fun g => some (zOb X cap' g)) (funext fun k => ?_)
      unfold va_cpy
      by_cases c : k < cap
      · rw [if_pos ⟨by omega, by omega⟩, if_pos c]
        exact congrArg g (by omega)
      · rw [if_neg (by omega), if_neg c]
    · rw [zset_ne _ _ e, znew_ne _ _ _ e, znew_ne _ _ _ e]
theorem c_copyOf (G : zG X) {d cap cap' : Nat} {g : Nat → Option Nat} (hd : h.1 d = some (zOb X cap g)) (h1 : cap ≤ cap') (h2 : cap' ≤ 4000) (hel : zEl h g 0 cap) (hlim : zLim X (znew h (zOb X cap' (fun _ => none)) cap')) : ZM X MJ7_copyOf_1904c 2 154 [.ref d, .int (nI cap')] h (zX (znew h (zOb X cap' (fun i => if i < cap then g i else none)) cap') (some (.ref h.2.1))) := by
  obtain ⟨mi, hMi⟩ := zMi_ex G
  refine zm_of_z G KJ7_copyOf_1904c rfl rfl ?_
  refine z_go 90 rfl ?_
  refine z_getC hMi hd rfl rfl rfl rfl rfl ?_
  refine z_cS (c_copyOf3 G hMi hd h1 h2 hel hlim) KJ7_copyOf_6403c SJ7_copyOf_6403c rfl rfl PJ7_copyOf_6403c rfl rfl rfl rfl ?_
  exact z_aret (r := some h.2.1) rfl rfl (Or.inr ⟨_, rfl⟩) ⟨rfl, rfl⟩
theorem zgrow_b {cap : Nat} (h : cap ≤ 2000) : cap < zgrow cap ∧ zgrow cap ≤ 3000 ∧ 10 ≤ zgrow cap ∨ cap < zgrow cap ∧ zgrow cap ≤ 3000 ∧ cap < 10 := by unfold zgrow; split <;> (try split) <;> omega
/-- grow(n + 1) on a full list -/
theorem c_grow1 (G : zG X) {a d cap : Nat} {mc : Int32} {g : Nat → Option Nat} (hA : zAl X h a d mc cap cap g) (hel : zEl h g 0 cap) (hlim : zLim X (znew h (zOb X (zgrow cap) (fun _ => none)) (zgrow cap))) : ZM X MJx4a65c_grow_92f84 3 181 [.ref a, .int (nI (cap + 1))] h (zX (zset (znew h (zOb X (zgrow cap) (fun i => if i < cap then g i else none)) (zgrow cap)) a (zLc mc h.2.1 cap)) (some (.ref h.2.1))) := by
  obtain ⟨q1, q2, -, q4⟩ := hA
  obtain ⟨t0, hD⟩ := zDef_ex G
  have hz : zgrow cap ≤ 3000 ∧ cap ≤ zgrow cap := by rcases zgrow_b q4 with c | c <;> omega
  refine zm_of_z G KJx4a65c_grow_92f84 rfl rfl ?_
  refine z_wf fun wf _ => ?_
  have hne : a ≠ h.2.1 := by have := (wf a _ q1).2; omega
  refine z_go 90 rfl ?_
  refine z_get q1 rfl rfl rfl rfl ?_
  refine zD_len q2 rfl ?_
  refine z_go 90 rfl ?_
  refine z_br rfl rfl (fun c => ?_) (fun c => ?_) <;> (try dsimp only at c)
  · rw [show (0 : Int32) = nI 0 from rfl, n_lt (by omega) (by omega)] at c
    obtain ⟨q2, -⟩ | ⟨q2, q3⟩ := q2
    · omega
    refine z_go 90 rfl ?_
    have e1 : nI (cap + 1) - nI cap = 1 := by
      apply i_ext
      have e2 := i_nI (n := cap + 1) (by omega)
      have e3 := i_nI (n := cap) (by omega)
      have e4 : (1 : Int32).toInt = 1 := rfl
      rw [i_sub] <;> omega
    rw [e1]
    refine z_cS (c_newLen G cap c q4) KJ8_newLength_cabcc SJ8_newLength_cabcc rfl rfl PJ8_newLength_cabcc rfl rfl rfl rfl ?_
    refine z_go 90 rfl ?_
    refine z_get q1 rfl rfl rfl rfl ?_
    refine z_go 90 rfl ?_
    refine z_cS (c_copyOf G q3 hz.2 (by omega) hel hlim) KJ7_copyOf_1904c SJ7_copyOf_1904c rfl rfl PJ7_copyOf_1904c rfl rfl rfl rfl ?_
    refine z_go 90 rfl ?_
    refine z_put (show (znew h _ _).1 a = _ by rw [znew_ne _ _ _ hne]; exact q1) rfl rfl rfl rfl rfl rfl (by simp) ?_
    exact z_aret (r := some h.2.1) rfl rfl (Or.inr ⟨_, rfl⟩) ⟨rfl, rfl⟩
  · rw [show (0 : Int32) = nI 0 from rfl, n_lt (by omega) (by omega)] at c
    have c0 : cap = 0 := by omega
    subst c0
    obtain ⟨-, q2⟩ | ⟨q2, q3⟩ := q2
    · refine z_go 90 rfl ?_
      refine z_get q1 rfl rfl rfl rfl ?_
      refine z_gets q2 rfl rfl ?_
      refine z_br rfl rfl (fun c => ?_) (fun c => ?_) <;> (try dsimp only at c)
      · refine z_go 90 rfl ?_
        refine z_cS (c_max G _ _) KJ9_max_7cf53 SJ9_max_7cf53 rfl rfl PJ9_max_7cf53 rfl rfl rfl rfl ?_
        rw [show (if (10 : Int32) < nI (0 + 1) then nI (0 + 1) else 10) = nI (zgrow 0) from rfl]
        refine z_newO (zgrow 0) rfl rfl rfl (by decide) hlim ?_
        refine z_go 90 rfl ?_
        refine z_put (show (znew h _ _).1 a = _ by rw [znew_ne _ _ _ hne]; exact q1) rfl rfl rfl rfl rfl rfl (by simp) ?_
        exact z_aret (r := some h.2.1) rfl rfl (Or.inr ⟨_, rfl⟩) ⟨rfl, rfl⟩
      · exact absurd rfl c
    · omega
theorem c_grow0 (G : zG X) {a d cap : Nat} {mc : Int32} {g : Nat → Option Nat} (hA : zAl X h a d mc cap cap g) (hel : zEl h g 0 cap) (hlim : zLim X (znew h (zOb X (zgrow cap) (fun _ => none)) (zgrow cap))) : ZM X MJx4a65c_grow_d5877 4 208 [.ref a] h (zX (zset (znew h (zOb X (zgrow cap) (fun i => if i < cap then g i else none)) (zgrow cap)) a (zLc mc h.2.1 cap)) (some (.ref h.2.1))) := by
  obtain ⟨q1, q2, q3, q4⟩ := id hA
  refine zm_of_z G KJx4a65c_grow_d5877 rfl rfl ?_
  refine z_go 90 rfl ?_
  refine z_get q1 rfl rfl rfl rfl ?_
  refine z_go 90 rfl ?_
  rw [n_succ]
  refine z_cV q1 (c_grow1 G hA hel hlim) KJx4a65c_grow_92f84 IJx4a65c_grow_92f84 VJx4a65c_grow_92f84 rfl rfl rfl PJx4a65c_grow_92f84 rfl rfl rfl rfl ?_
  exact z_aret (r := some h.2.1) rfl rfl (Or.inr ⟨_, rfl⟩) ⟨rfl, rfl⟩
end ZGR
