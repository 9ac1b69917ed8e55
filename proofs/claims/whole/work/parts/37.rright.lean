theorem l_div {x y : Int64} (h1 : 0 ≤ x.toInt) (h2 : 0 < y.toInt) : (x / y).toInt = x.toInt / y.toInt := by
  have hx := l_rng x
  rw [Int64.toInt_div, Int.tdiv_eq_ediv_of_nonneg h1, Int.bmod_def]
  have h3 : x.toInt / y.toInt ≤ x.toInt := Int.ediv_le_self _ h1
  have h4 : 0 ≤ x.toInt / y.toInt := Int.ediv_nonneg h1 (by omega)
  generalize x.toInt / y.toInt = z at *
  omega
theorem l_mul {x y : Int64} (h1 : -9223372036854775808 ≤ x.toInt * y.toInt) (h2 : x.toInt * y.toInt ≤ 9223372036854775807) : (x * y).toInt = x.toInt * y.toInt := by
  rw [Int64.toInt_mul, Int.bmod_def]
  generalize x.toInt * y.toInt = z at *
  omega
theorem l_rem {x y : Int64} (h1 : 0 ≤ x.toInt) (h2 : 0 < y.toInt) : (x - x / y * y).toInt = x.toInt % y.toInt := by
  have hx := l_rng x
  have e := l_div h1 h2
  have h4 : 0 ≤ x.toInt / y.toInt := Int.ediv_nonneg h1 (by omega)
  have hm : x.toInt / y.toInt * y.toInt ≤ x.toInt := Int.ediv_mul_le _ (by omega)
  have hm0 : 0 ≤ x.toInt / y.toInt * y.toInt := Int.mul_nonneg h4 (by omega)
  have e2 : (x / y * y).toInt = x.toInt / y.toInt * y.toInt := by rw [l_mul, e] <;> rw [e] <;> omega
  rw [l_sub, e2, Int.emod_def, Int.mul_comm] <;> rw [e2] <;> omega
def sKd (s : Nat) : Nat := if s = 250 then 1 else if s = 253 then 2 else if s = 241 then 3 else if s = 242 ∨ s = 243 then 4 else if s = 245 then 5 else if s = 248 then 6 else if s = 249 then 7 else 8
def sGd (S : zS) (y : Nat) : Prop := sN S 4 (y / 8) = 0 ∨ (sN S 4 (y / 8) < 8 ∧ y % 8 < sN S 4 (y / 8))
noncomputable def sWr (S : zS) (z : Int) : Nat := zif (z < 0 ∨ (sN S 1 0 : Int) ≤ z) 9 (zif (sGd S z.toNat) 0 (sKd (if sN S 4 (z.toNat / 8) < 8 then sN S 4 (z.toNat / 8 + 1) else sN S 4 (z.toNat / 8))))
theorem sKd_b (s : Nat) : 1 ≤ sKd s ∧ sKd s ≤ 8 := by
  unfold sKd
  repeat (first | (split; omega) | omega)
theorem sWr_b (S : zS) (z : Int) : sWr S z ≤ 9 := by
  unfold sWr
  by_cases c : z < 0 ∨ (sN S 1 0 : Int) ≤ z
  · rw [zif_pos c]; omega
  · rw [zif_neg c]
    by_cases d : sGd S z.toNat
    · rw [zif_pos d]; omega
    · rw [zif_neg d]; have := sKd_b (if sN S 4 (z.toNat / 8) < 8 then sN S 4 (z.toNat / 8 + 1) else sN S 4 (z.toNat / 8)); omega
theorem sWr_0 {S : zS} {z : Int} (h : sWr S z = 0) : ∃ y : Nat, z = (y : Int) ∧ y < sN S 1 0 ∧ sGd S y := by
  unfold sWr at h
  by_cases c : z < 0 ∨ (sN S 1 0 : Int) ≤ z
  · rw [zif_pos c] at h; omega
  · rw [zif_neg c] at h
    by_cases d : sGd S z.toNat
    · exact ⟨z.toNat, by omega, by omega, d⟩
    · rw [zif_neg d] at h; have := sKd_b (if sN S 4 (z.toNat / 8) < 8 then sN S 4 (z.toNat / 8 + 1) else sN S 4 (z.toNat / 8)); omega
theorem z_lit8 : Jvm.Cond.constantLong "ShadowWardModel" 171 8 ∈ lw_tbl := z_in (List.mem_of_getElem? (i := 1280) (by decide +kernel))
theorem z_lit255 : Jvm.Cond.constantLong "ShadowWardModel" 195 255 ∈ lw_tbl := z_in (List.mem_of_getElem? (i := 1369) (by decide +kernel))
section ZRT
variable {X : zCx} {h : zHp} {m : Nat} {S : zS} {cc : Nat}
theorem rc_wrong (G : zG X) (I : sInv S cc) (Ad : Int64) (z : Int) (hz : Ad.toInt = z) : ZM X MX11_wrong 0 100 [.ref m, .long Ad] (zr X h m S) (zX (zr X h m S) (some (.int (nI (sWr S z))))) := by
  obtain ⟨I0, In, Ig, If, Ib, Iq, Ih, Im, Ic⟩ := id I
  obtain ⟨N1, N2, N3, N4⟩ := In
  have z0 : (0 : Int64).toInt = 0 := rfl
  have z8 : (8 : Int64).toInt = 8 := rfl
  have hn1 := l_nI (n := sN S 1 0) (by omega)
  have out : (z < 0 ∨ (sN S 1 0 : Int) ≤ z) → Z X MX11_wrong (0, 100, h.2.1, h.2.2) (zr X h m S) 18 [some (.ref m), some (.long Ad), none, none, none] [.int 9] (zX (zr X h m S) (some (.int (nI (sWr S z))))) := by
    intro ho
    exact z_iret rfl rfl ⟨rfl, by unfold sWr; rw [zif_pos ho]; rfl⟩
  refine zm_of_z G KX11_wrong rfl rfl ?_
  refine z_go 90 rfl ?_
  refine z_br rfl rfl (fun c => ?_) (fun c => ?_) <;> (try dsimp only at c)
  · rw [lc_lt] at c
    refine z_go 90 rfl ?_
    exact out (by omega)
  rw [lc_lt] at c
  refine z_go 90 rfl ?_
  refine r_v1 (sN_eq I0 rfl) rfl rfl rfl ?_
  refine z_go 90 rfl ?_
  refine z_br rfl rfl (fun d => ?_) (fun d => ?_) <;> (try dsimp only at d)
  case _ =>
    rw [lc_lt] at d
    have hin : ¬ (z < 0 ∨ (sN S 1 0 : Int) ≤ z) := by omega
    obtain ⟨y, hy⟩ : ∃ y : Nat, z = (y : Int) := ⟨z.toNat, by omega⟩
    subst hy
    have hW : sWr S (y : Int) = zif (sGd S y) 0 (sKd (if sN S 4 (y / 8) < 8 then sN S 4 (y / 8 + 1) else sN S 4 (y / 8))) := by
      unfold sWr
      rw [zif_neg hin]
      rfl
    rw [hW]
    refine z_go 90 rfl ?_
    rw [l_back hz (by omega)]
    refine z_div rfl (by decide) ?_
    refine z_go 90 rfl ?_
    rw [show nI y / (8 : Int32) = nI (y / 8) from n_div (b := 8) (by omega) (by omega) (by omega)]
    refine z_get zr_o rfl rfl rfl rfl ?_
    refine z_go 90 rfl ?_
    have l4 := sN_lt I0 (k := 4) (i := y / 8) rfl
    have l4' := sN_lt I0 (k := 4) (i := y / 8 + 1) rfl
    refine r_lv4 (y / 8) (sN_eq I0 rfl) (i_nI (by omega)) (by omega) rfl ?_
    refine z_go 90 rfl ?_
    have fin : ∀ s : Nat, s < 10000 → ¬ sGd S y → s = (if sN S 4 (y / 8) < 8 then sN S 4 (y / 8 + 1) else sN S 4 (y / 8)) → Z X MX11_wrong (0, 100, h.2.1, h.2.2) (zr X h m S) 81 [some (.ref m), some (.long Ad), none, some (.int (nI (y / 8))), some (.int (nI s))] [.int 250, .int (nI s)] (zX (zr X h m S) (some (.int (nI (zif (sGd S y) 0 (sKd (if sN S 4 (y / 8) < 8 then sN S 4 (y / 8 + 1) else sN S 4 (y / 8)))))))) := by
      intro s hs9 hg hs
      rw [zif_neg hg, ← hs]
      refine z_br rfl rfl (fun q1 => ?_) (fun q1 => ?_) <;> (try dsimp only at q1)
      case _ =>
        rw [show (250 : Int32) = nI 250 from rfl, n_eq (by omega) (by omega)] at q1
        refine z_go 90 rfl ?_
        refine z_br rfl rfl (fun q2 => ?_) (fun q2 => ?_) <;> (try dsimp only at q2)
        case _ =>
          rw [show (253 : Int32) = nI 253 from rfl, n_eq (by omega) (by omega)] at q2
          refine z_go 90 rfl ?_
          refine z_br rfl rfl (fun q3 => ?_) (fun q3 => ?_) <;> (try dsimp only at q3)
          case _ =>
            rw [show (241 : Int32) = nI 241 from rfl, n_eq (by omega) (by omega)] at q3
            refine z_go 90 rfl ?_
            refine z_br rfl rfl (fun q4 => ?_) (fun q4 => ?_) <;> (try dsimp only at q4)
            · rw [show (242 : Int32) = nI 242 from rfl, n_eq (by omega) (by omega)] at q4
              refine z_go 90 rfl ?_
              exact z_iret rfl rfl ⟨rfl, by unfold sKd; rw [if_neg q1, if_neg q2, if_neg q3, if_pos (Or.inl q4)]; rfl⟩
            rw [show (242 : Int32) = nI 242 from rfl, n_eq (by omega) (by omega)] at q4
            refine z_go 90 rfl ?_
            refine z_br rfl rfl (fun q5 => ?_) (fun q5 => ?_) <;> (try dsimp only at q5)
            case _ =>
              rw [show (243 : Int32) = nI 243 from rfl, n_eq (by omega) (by omega)] at q5
              refine z_go 90 rfl ?_
              refine z_br rfl rfl (fun q6 => ?_) (fun q6 => ?_) <;> (try dsimp only at q6)
              case _ =>
                rw [show (245 : Int32) = nI 245 from rfl, n_eq (by omega) (by omega)] at q6
                refine z_go 90 rfl ?_
                refine z_br rfl rfl (fun q7 => ?_) (fun q7 => ?_) <;> (try dsimp only at q7)
                case _ =>
                  rw [show (248 : Int32) = nI 248 from rfl, n_eq (by omega) (by omega)] at q7
                  refine z_go 90 rfl ?_
                  refine z_br rfl rfl (fun q8 => ?_) (fun q8 => ?_) <;> (try dsimp only at q8)
                  · rw [show (249 : Int32) = nI 249 from rfl, n_eq (by omega) (by omega)] at q8
                    refine z_go 90 rfl ?_
                    exact z_iret rfl rfl ⟨rfl, by unfold sKd; rw [if_neg q1, if_neg q2, if_neg q3, if_neg (by omega), if_neg q6, if_neg q7, if_neg q8]; rfl⟩
                  · rw [show (249 : Int32) = nI 249 from rfl, n_eq (by omega) (by omega)] at q8
                    refine z_go 90 rfl ?_
                    exact z_iret rfl rfl ⟨rfl, by unfold sKd; rw [if_neg q1, if_neg q2, if_neg q3, if_neg (by omega), if_neg q6, if_neg q7, if_pos q8]; rfl⟩
                rw [show (248 : Int32) = nI 248 from rfl, n_eq (by omega) (by omega)] at q7
                refine z_go 90 rfl ?_
                exact z_iret rfl rfl ⟨rfl, by unfold sKd; rw [if_neg q1, if_neg q2, if_neg q3, if_neg (by omega), if_neg q6, if_pos q7]; rfl⟩
              rw [show (245 : Int32) = nI 245 from rfl, n_eq (by omega) (by omega)] at q6
              refine z_go 90 rfl ?_
              exact z_iret rfl rfl ⟨rfl, by unfold sKd; rw [if_neg q1, if_neg q2, if_neg q3, if_neg (by omega), if_pos q6]; rfl⟩
            rw [show (243 : Int32) = nI 243 from rfl, n_eq (by omega) (by omega)] at q5
            refine z_go 90 rfl ?_
            exact z_iret rfl rfl ⟨rfl, by unfold sKd; rw [if_neg q1, if_neg q2, if_neg q3, if_pos (Or.inr q5)]; rfl⟩
          rw [show (241 : Int32) = nI 241 from rfl, n_eq (by omega) (by omega)] at q3
          refine z_go 90 rfl ?_
          exact z_iret rfl rfl ⟨rfl, by unfold sKd; rw [if_neg q1, if_neg q2, if_pos q3]; rfl⟩
        rw [show (253 : Int32) = nI 253 from rfl, n_eq (by omega) (by omega)] at q2
        refine z_go 90 rfl ?_
        exact z_iret rfl rfl ⟨rfl, by unfold sKd; rw [if_neg q1, if_pos q2]; rfl⟩
      rw [show (250 : Int32) = nI 250 from rfl, n_eq (by omega) (by omega)] at q1
      refine z_go 90 rfl ?_
      exact z_iret rfl rfl ⟨rfl, by unfold sKd; rw [if_pos q1]; rfl⟩
    have h08 : (8 : Int32) = nI 8 := rfl
    refine z_br rfl rfl (fun e => ?_) (fun e => ?_) <;> (try dsimp only at e)
    · rw [show (0 : Int32) = nI 0 from rfl, n_eq (by omega) (by omega)] at e
      refine z_go 90 rfl ?_
      exact z_iret rfl rfl ⟨rfl, by rw [zif_pos (p := sGd S y) (Or.inl e)]; rfl⟩
    rw [show (0 : Int32) = nI 0 from rfl, n_eq (by omega) (by omega)] at e
    refine z_go 90 rfl ?_
    refine z_br rfl rfl (fun q => ?_) (fun q => ?_) <;> (try dsimp only at q)
    · rw [h08, n_le (by omega) (by omega)] at q
      refine z_go 90 rfl ?_
      refine z_br rfl rfl (fun qq => ?_) (fun qq => ?_) <;> (try dsimp only at qq)
      · refine z_go 90 rfl ?_
        exact fin (sN S 4 (y / 8)) l4 (by unfold sGd; omega) (by rw [if_neg (by omega)])
      · rw [h08, n_le (by omega) (by omega)] at qq
        omega
    rw [h08, n_le (by omega) (by omega)] at q
    refine z_go 90 rfl ?_
    refine z_ldc2 rfl z_lit8 ?_
    refine z_go 90 rfl ?_
    refine z_lrem rfl (by decide) ?_
    refine z_go 90 rfl ?_
    have hrm : (Ad - Ad / 8 * 8).toInt = (y % 8 : Nat) := by
      rw [l_rem (by omega) (by decide), hz, z8]
      omega
    have hl4 := l_nI (n := sN S 4 (y / 8)) (by omega)
    refine z_br rfl rfl (fun u => ?_) (fun u => ?_) <;> (try dsimp only at u)
    · rw [lc_ge] at u
      refine z_go 90 rfl ?_
      refine z_br rfl rfl (fun qq => ?_) (fun qq => ?_) <;> (try dsimp only at qq)
      · rw [h08, n_le (by omega) (by omega)] at qq
        omega
      refine z_go 90 rfl ?_
      have hg : ¬ sGd S y := by unfold sGd; omega
      have h7 := (Ih (y / 8)).2 (by omega) (by omega)
      refine z_get zr_o rfl rfl rfl rfl ?_
      refine z_go 90 rfl ?_
      rw [show nI (y / 8) + (1 : Int32) = nI (y / 8 + 1) from n_succ _]
      refine r_lv4 (y / 8 + 1) (sN_eq I0 rfl) (i_nI (by omega)) (by omega) rfl ?_
      refine z_go 90 rfl ?_
      exact fin (sN S 4 (y / 8 + 1)) l4' hg (by rw [if_pos (by omega)])
    · rw [lc_ge] at u
      refine z_go 90 rfl ?_
      exact z_iret rfl rfl ⟨rfl, by rw [zif_pos (p := sGd S y) (Or.inr (by omega))]; rfl⟩
  · rw [lc_lt] at d
    refine z_go 90 rfl ?_
    exact out (by omega)
noncomputable def sFw (S : zS) (p : Int32) (a b : Nat) : Option Nat := (zFst (fun i => sWr S (p.toInt + (a + i : Nat)) ≠ 0) (b - a)).map (fun i => a + i)
noncomputable def sRight (S : zS) (p : Int32) (a b : Nat) (many wr : Int32) : Int32 × zS := match sFw S p a b with
  | none => (1, S)
  | some k => (0, sTells S (nI (sWr S (p.toInt + k))) (p.toInt + k) (p + nI k) many wr)
theorem rc_right (G : zG X) (I : sInv S cc) (p : Int32) (a b : Nat) (many wr : Int32) (hwr : wr = 0 ∨ wr = 1) (hab : a ≤ b) (hb : b ≤ 20000) : ZM X MX11_right 3 181 [.ref m, .long p.toInt64, .int (nI a), .int (nI b), .int many, .int wr] (zr X h m S) (zX (zr X h m (sRight S p a b many wr).2) (some (.int (sRight S p a b many wr).1))) := by
  have hp := i_rng p
  refine zm_of_z G KX11_right rfl rfl ?_
  refine z_go 90 rfl ?_
  have H := zdown (P := fun k => ∀ o8, (∀ j, j < k → ¬ sWr S (p.toInt + (a + j : Nat)) ≠ 0) → Z X MX11_right (3, 181, h.2.1, h.2.2) (zr X h m S) 7 [some (.ref m), some (.long p.toInt64), none, some (.int (nI a)), some (.int (nI b)), some (.int many), some (.int wr), some (.int (nI (a + k))), o8] [.int (nI b), .int (nI (a + k))] (zX (zr X h m (sRight S p a b many wr).2) (some (.int (sRight S p a b many wr).1)))) (b - a) (fun k hk ih o8 hp2 => ?_) 0 (Nat.zero_le _) none (fun j hj => by omega)
  · exact H
  refine z_br rfl rfl (fun c => ?_) (fun c => ?_) <;> (try dsimp only at c)
  · rw [n_le (by omega) (by omega)] at c
    refine z_go 90 rfl ?_
    have : sRight S p a b many wr = (1, S) := by
      have hn : sFw S p a b = none := by
        unfold sFw
        rw [zFst_none.mpr (fun j hj => hp2 j (by omega))]
        rfl
      unfold sRight
      rw [hn]
    rw [this]
    exact z_zret rfl rfl rfl ⟨rfl, rfl⟩
  · rw [n_le (by omega) (by omega)] at c
    refine z_go 90 rfl ?_
    have hA : (p.toInt64 + (nI (a + k)).toInt64).toInt = p.toInt + (a + k : Nat) := by
      have h1 := l_i p
      have h2 := l_nI (n := a + k) (by omega)
      rw [l_add] <;> omega
    refine z_cV zr_o (rc_wrong G I _ _ hA) KX11_wrong IX11_wrong VX11_wrong rfl rfl rfl PX11_wrong rfl rfl rfl rfl ?_
    refine z_go 90 rfl ?_
    have hw := sWr_b S (p.toInt + (a + k : Nat))
    refine z_br rfl rfl (fun d => ?_) (fun d => ?_) <;> (try dsimp only at d)
    · rw [show (0 : Int32) = nI 0 from rfl, n_eq (by omega) (by omega)] at d
      refine z_go 90 rfl ?_
      have : sRight S p a b many wr = (0, sTells S (nI (sWr S (p.toInt + (a + k : Nat)))) (p.toInt + (a + k : Nat)) (p + nI (a + k)) many wr) := by
        have hn : sFw S p a b = some (a + k) := by
          unfold sFw
          rw [(zFst_some (k := k)).mpr ⟨by omega, d, hp2⟩]
          rfl
        unfold sRight
        rw [hn]
      rw [this]
      refine z_cV zr_o (rc_tells G I _ _ _ (p + nI (a + k)) many wr hA (l_wrap p _) hwr) KX11_tells IX11_tells VX11_tells rfl rfl rfl PX11_tells rfl rfl rfl rfl ?_
      refine z_go 90 rfl ?_
      exact z_zret rfl rfl rfl ⟨rfl, rfl⟩
    · rw [show (0 : Int32) = nI 0 from rfl, n_eq (by omega) (by omega)] at d
      refine z_go 90 rfl ?_
      rw [show nI (a + k) + (1 : Int32) = nI (a + (k + 1)) from n_succ _]
      refine ih (by omega) _ (fun j hj => ?_)
      by_cases e : j = k
      · subst e; omega
      · exact hp2 j (by omega)
end ZRT
