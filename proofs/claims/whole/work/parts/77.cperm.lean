section ZPM
variable {X : zCx} {F : Nat → Option va_E} {o p q : Nat} {S : zS} {D : Nat → Nat → Nat} {W : Nat → Nat → Int32} {K : Nat → Nat → Nat} {h : zHp} {cc : Nat}
/-- the end of a public call: what the reference has thrown, the class has thrown -/
def zPub (X : zCx) (F : Nat → Option va_E) (o : Nat) (E1 E2 : String) (v : Value) (S' : zS) (p q : Nat) : zRs → zHp → Prop := fun r h' => (∃ D W K, zSt X F o S' D W K h' p q) ∧ (S' 0 0 = 0 ∧ r = .inl (some v) ∨ S' 0 0 = 1 ∧ r = .inr E1 ∨ S' 0 0 = 2 ∧ r = .inr E2 ∧ E1 ≠ E2)
theorem zPub_x {E1 E2 : String} {v : Value} (R : zSt X F o S D W K h p q) : zPub X F o E1 E2 v (sThrow S 1) (p + 30) (q + 3000) (.inr E1) (zadd h 1 6) := ⟨⟨D, W, K, zSt_T (zSt_le (zSt_add R 1 6) (by omega) (by omega)) 1⟩, Or.inr (Or.inl ⟨rfl, rfl⟩)⟩
theorem zSt_limA (R : zSt X F o S D W K h p q) (hp : p ≤ 500000 ∧ q ≤ 7000000) : zLim X (zadd h 1 6) := by
  have := zSt_lim R hp
  exact ⟨by show h.2.1 + 1 ≤ _; omega, by show h.2.2 + 6 ≤ _; omega⟩
theorem w_wrap {w : Int32} {i N : Nat} (hi : i ≤ 100000) (hN : N ≤ 8192) : (w.toInt + i : Int) = (w + nI i).toInt ∨ ¬ (0 ≤ (w.toInt + i : Int) ∧ (w.toInt + i : Int) < N) ∧ ¬ (0 ≤ (w + nI i).toInt ∧ (w + nI i).toInt < N) := by
  have rp := i_rng w
  have ti := i_nI (n := i) (by omega)
  by_cases c : w.toInt + i ≤ 2147483647
  · left
    rw [i_add (by omega) (by omega), ti]
  · right
    have e : (w + nI i).toInt = w.toInt + i - 4294967296 := by
      rw [Int32.toInt_add, ti, Int.bmod_def]
      omega
    omega
theorem sFw_lt {S : zS} {a : Int32} {m n i : Nat} (hf : sFw S a m n = some i) : i < n := by
  unfold sFw at hf
  cases h9 : zFst (fun i => sWr S (a.toInt + (m + i : Nat)) ≠ 0) (n - m) with
  | none => rw [h9] at hf; cases hf
  | some k =>
    rw [h9] at hf
    have e : m + k = i := Option.some.inj hf
    have := (zFst_some.mp h9).1
    omega
theorem k_per1 (G : zG X) (I : sInv S cc) (R : zSt X F o S D W K h p q) (a rw' : Int32) (n : Nat) (hn : n ≤ 20000) (hf : sFw S a 0 n = none) : ZM X MX10_permits 8 320 [.ref o, .int a, .int (nI n), .int rw'] h (zX h (some (.int 1))) := by
  have Mm := zRel_mem R.1 I.2.1
  refine zm_of_z G KX10_permits rfl rfl ?_
  refine z_go 90 rfl ?_
  refine z_get (zSt_0 R) rfl rfl rfl rfl ?_
  refine z_go 90 rfl ?_
  refine z_cV Mm.1 (c_firstWrong G I Mm a n hn) KX6_firstWrong IX6_firstWrong VX6_firstWrong rfl rfl rfl PX6_firstWrong rfl rfl rfl rfl ?_
  rw [hf]
  refine z_go 90 rfl ?_
  refine z_br rfl rfl (fun c => absurd c (by first | decide | (dsimp only; decide))) (fun _ => ?_)
  refine z_go 90 rfl ?_
  exact z_zret rfl rfl rfl ⟨rfl, rfl⟩
theorem k_per0 (G : zG X) (I : sInv S cc) (hc : sN S 27 0 < 512) (R : zSt X F o S D W K h p q) (hp : p ≤ 500000 ∧ q ≤ 7000000) (a rw' : Int32) (n i : Nat) (hn : n ≤ 20000) (hf : sFw S a 0 n = some i) (z : Int) (hz : sWr S z = sWr S (a + nI i).toInt) (hz2 : z = (a + nI i).toInt ∨ ¬ (0 ≤ z ∧ z < sN S 1 0) ∧ ¬ (0 ≤ (a + nI i).toInt ∧ (a + nI i).toInt < sN S 1 0)) : ZM X MX10_permits 8 320 [.ref o, .int a, .int (nI n), .int rw'] h (zPo X F o (some (.int 0)) (sTells S (nI (sWr S z)) z (a + nI i) (nI n) rw') (p + 2) (q + 2000)) := by
  have Mm := zRel_mem R.1 I.2.1
  have hi : i < n ∧ sWr S (a.toInt + i) ≠ 0 := by
    unfold sFw at hf
    cases h9 : zFst (fun i => sWr S (a.toInt + (0 + i : Nat)) ≠ 0) (n - 0) with
    | none => rw [h9] at hf; cases hf
    | some k =>
      rw [h9] at hf
      have e : 0 + k = i := Option.some.inj hf
      obtain ⟨q1, q2, -⟩ := zFst_some.mp h9
      rw [e] at q2
      exact ⟨by omega, q2⟩
  have hw : sWr S (a + nI i).toInt ≠ 0 := by
    rw [sWr_wrap (by omega) I.2.1.2.1]
    exact hi.2
  refine zm_of_z G KX10_permits rfl rfl ?_
  refine z_go 90 rfl ?_
  refine z_get (zSt_0 R) rfl rfl rfl rfl ?_
  refine z_go 90 rfl ?_
  refine z_cV Mm.1 (c_firstWrong G I Mm a n hn) KX6_firstWrong IX6_firstWrong VX6_firstWrong rfl rfl rfl PX6_firstWrong rfl rfl rfl rfl ?_
  rw [hf]
  refine z_go 90 rfl ?_
  refine z_br rfl rfl (fun _ => ?_) (fun c => absurd c (by
    show ¬ nI i = -1
    exact (fun e => by
      have e2 := congrArg Int32.toInt e
      rw [i_nI (by omega)] at e2
      have e3 : (-1 : Int32).toInt = -1 := rfl
      omega)))
  refine z_go 90 rfl ?_
  refine z_get (zSt_0 R) rfl rfl rfl rfl ?_
  refine z_go 90 rfl ?_
  refine z_cV Mm.1 (c_kind G I Mm (a + nI i) hw) KX6_kindOfWrong IX6_kindOfWrong VX6_kindOfWrong rfl rfl rfl PX6_kindOfWrong rfl rfl rfl rfl ?_
  refine z_go 90 rfl ?_
  rw [← hz]
  refine z_cVP (zSt_0 R) (k_tell G I hc R hp (nI (sWr S z)) (a + nI i) (nI n) rw' z hz2) KX10_tell IX10_tell VX10_tell rfl rfl rfl PX10_tell rfl rfl rfl rfl ?_
  intro h1 P1
  refine z_go 90 rfl ?_
  exact z_zret rfl rfl rfl ⟨rfl, P1⟩
theorem k_isC (G : zG X) (I : sInv S cc) (R : zSt X F o S D W K h p q) (n : Int32) : ZM X MX10_isCount 0 100 [.ref o, .int n] h (zX h (some (.int (zif (sNoA S n) 0 1)))) := by
  rw [← R.2.1.1]
  exact k_isCount G I R.1 n
theorem k_vO1 (G : zG X) (I : sInv S cc) (R : zSt X F o S D W K h p q) (f j : Nat) (hf : f < sN S 14 0) (hj : j < sN S 10 f) : ZM X MX10_variableOf 7 290 [.ref o, .int (nI f), .int (nI j)] h (zX h (some (.ref (D 14 (4 * f + j))))) := by
  rw [← R.2.1.1]
  exact k_varOf1 G I R.1 f j hf hj
theorem k_vO0 (G : zG X) (I : sInv S cc) (R : zSt X F o S D W K h p q) (a b : Int32) (hn : sNoV S a b) (hlim : zLim X (zadd h 1 6)) : ZM X MX10_variableOf 7 290 [.ref o, .int a, .int b] h (zXT (zadd h 1 6) zIOE) := by
  rw [← R.2.1.1]
  exact k_varOf0 G I R.1 a b hn hlim
theorem sNm_T (S : zS) (w : Int32) (a n : Nat) : ∀ j, sNm (sThrow S w) a n j = sNm S a n j
  | 0 => rfl
  | j + 1 => by
    show (sNm (sThrow S w) a n j <<< ((8 : Int32).toInt64 &&& 63)) ||| (S 3 (a + (n - 1 - j)) &&& 255).toInt64 = _
    rw [sNm_T S w a n j]
    rfl
end ZPM
