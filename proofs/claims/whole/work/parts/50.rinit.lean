abbrev zf0 : List Value := [.int 0, .int 0, .int 0, .null, .null, .null, .null, .int 0, .null, .null, .null, .null, .null, .null, .int 0, .null, .null, .null, .null, .null, .null, .null, .null, .int 0, .null, .int 0, .null, .int 0, .null, .null]
def zp (X : zCx) (hb : zHp) (fs : List Value) (j s : Nat) : zHp := (fun a => if a = hb.2.1 then some (.inr (12, fs)) else if hb.2.1 < a ∧ a ≤ hb.2.1 + j then zrc X (fun _ _ => 0) hb.2.1 (a - hb.2.1) else hb.1 a, hb.2.1 + 1 + j, hb.2.2 + s)
section ZPI
variable {X : zCx} {hb : zHp} {fs : List Value} {j s : Nat}
theorem zp_0 : znew hb (.inr (12, fs)) s = zp X hb fs 0 s := by
  refine Prod.ext (funext fun a => ?_) rfl
  show (if a = hb.2.1 then some (.inr (12, fs)) else hb.1 a) = if a = hb.2.1 then some (.inr (12, fs)) else if hb.2.1 < a ∧ a ≤ hb.2.1 + 0 then zrc X (fun _ _ => 0) hb.2.1 (a - hb.2.1) else hb.1 a
  by_cases c : a = hb.2.1
  · rw [if_pos c, if_pos c]
  · rw [if_neg c, if_neg c, if_neg (by omega)]
theorem zp_o : (zp X hb fs j s).1 hb.2.1 = some (.inr (12, fs)) := if_pos rfl
theorem zp_new {e : va_E} {k : Nat} (he : zrc X (fun _ _ => 0) hb.2.1 (j + 1) = some e) : znew (zp X hb fs j s) e k = zp X hb fs (j + 1) (s + k) := by
  refine Prod.ext (funext fun a => ?_) (Prod.ext (by show hb.2.1 + 1 + j + 1 = hb.2.1 + 1 + (j + 1); omega) (by show hb.2.2 + s + k = hb.2.2 + (s + k); omega))
  show (if a = hb.2.1 + 1 + j then some e else if a = hb.2.1 then some (.inr (12, fs)) else if hb.2.1 < a ∧ a ≤ hb.2.1 + j then zrc X (fun _ _ => 0) hb.2.1 (a - hb.2.1) else hb.1 a) = if a = hb.2.1 then some (.inr (12, fs)) else if hb.2.1 < a ∧ a ≤ hb.2.1 + (j + 1) then zrc X (fun _ _ => 0) hb.2.1 (a - hb.2.1) else hb.1 a
  by_cases c : a = hb.2.1 + 1 + j
  · rw [if_pos c, if_neg (by omega), if_pos (by omega), ← he]
    exact congrArg _ (by omega)
  · rw [if_neg c]
    by_cases d : a = hb.2.1
    · rw [if_pos d, if_pos d]
    · rw [if_neg d, if_neg d]
      by_cases e : hb.2.1 < a ∧ a ≤ hb.2.1 + j
      · rw [if_pos e, if_pos (by omega)]
      · rw [if_neg e, if_neg (by omega)]
theorem zp_set {fs' : List Value} : zset (zp X hb fs j s) hb.2.1 (.inr (12, fs')) = zp X hb fs' j s := by
  refine Prod.ext (funext fun a => ?_) rfl
  show (if a = hb.2.1 then some (.inr (12, fs')) else if a = hb.2.1 then some (.inr (12, fs)) else if hb.2.1 < a ∧ a ≤ hb.2.1 + j then zrc X (fun _ _ => 0) hb.2.1 (a - hb.2.1) else hb.1 a) = if a = hb.2.1 then some (.inr (12, fs')) else if hb.2.1 < a ∧ a ≤ hb.2.1 + j then zrc X (fun _ _ => 0) hb.2.1 (a - hb.2.1) else hb.1 a
  by_cases c : a = hb.2.1
  · rw [if_pos c, if_pos c]
  · rw [if_neg c, if_neg c, if_neg c]
theorem zp_end {S : zS} (h1 : zro S hb.2.1 = .inr (12, fs)) (h2 : ∀ i, 0 < i → i < 23 → zrc X S hb.2.1 i = zrc X (fun _ _ => 0) hb.2.1 i) : zp X hb fs 22 s = zr X (zadd hb 23 s) hb.2.1 S := by
  refine Prod.ext (funext fun a => ?_) rfl
  show (if a = hb.2.1 then some (.inr (12, fs)) else if hb.2.1 < a ∧ a ≤ hb.2.1 + 22 then zrc X (fun _ _ => 0) hb.2.1 (a - hb.2.1) else hb.1 a) = if hb.2.1 ≤ a ∧ a < hb.2.1 + 23 then zrc X S hb.2.1 (a - hb.2.1) else hb.1 a
  by_cases c : a = hb.2.1
  · rw [if_pos c, if_pos (by omega), ← h1, show a - hb.2.1 = 0 by omega]
    rfl
  · rw [if_neg c]
    by_cases d : hb.2.1 < a ∧ a ≤ hb.2.1 + 22
    · rw [if_pos d, if_pos (by omega), h2 _ (by omega) (by omega)]
    · rw [if_neg d, if_neg (by omega)]
end ZPI
def sNn (p : Int32) : Nat := if 1024 ≤ p.toInt ∧ p.toInt ≤ 8192 ∧ p.toInt % 64 = 0 then p.toInt.toNat else 4096
def sQq (p q : Int32) : Nat := if 0 ≤ q.toInt ∧ q.toInt ≤ sNn p then q.toInt.toNat else 1024
def sIniG (N k : Nat) : Nat → Int32 := fun g => if g < k then (if 8 * g < N / 8 then 249 else if 8 * g < N / 4 then 0 else 250) else 0
def sIni (p q : Int32) : zS := zV (zV (zV (fun _ _ => 0) 1 (fun _ => nI (sNn p))) 2 (fun _ => nI (sQq p q))) 4 (sIniG (sNn p) (sNn p / 8))
theorem sNn_b (p : Int32) : 1024 ≤ sNn p ∧ sNn p ≤ 8192 ∧ sNn p % 64 = 0 := by unfold sNn; split <;> omega
theorem sQq_b (p q : Int32) : sQq p q ≤ sNn p := by have := sNn_b p; unfold sQq; split <;> omega
def zfr (m i j : Nat) : Value := match Nat.ble i j with
  | true => .ref (m + i)
  | false => .null
abbrev zfl (m j : Nat) : List Value := [.int 0, .int 0, .int 0, zfr m 1 j, zfr m 2 j, zfr m 3 j, zfr m 4 j, .int 0, zfr m 5 j, zfr m 6 j, zfr m 7 j, zfr m 8 j, zfr m 9 j, zfr m 10 j, .int 0, zfr m 11 j, zfr m 12 j, zfr m 13 j, zfr m 14 j, zfr m 15 j, zfr m 16 j, zfr m 17 j, zfr m 18 j, .int 0, zfr m 19 j, .int 0, zfr m 20 j, .int 0, zfr m 21 j, zfr m 22 j]
section ZIN
variable {X : zCx} {hb : zHp} {f : zFr} {L : zLo} {Q : zRs → zHp → Prop}
def zHl (X : zCx) (hb : zHp) : Prop := hb.2.1 + 23 ≤ zB X + 601024 ∧ hb.2.2 + 28378 ≤ 7293000
theorem zi_l (hl : zHl X hb) {fs : List Value} {j s k : Nat} {e : va_E} (h1 : j + 1 ≤ 22) (h2 : s + k ≤ 28378) : zLim X (znew (zp X hb fs j s) e k) := ⟨by show hb.2.1 + 1 + j + 1 ≤ _; have := hl.1; omega, by show hb.2.2 + s + k ≤ _; have := hl.2; omega⟩
theorem zi_0 (hl : zHl X hb) (kk : Z X MX11_init f (zp X hb (zfl hb.2.1 1) 1 8222) 13 L [] Q) : Z X MX11_init f (zp X hb (zfl hb.2.1 0) 0 30) 8 L [.int 8192, .ref hb.2.1] Q := by
  refine z_newY 8192 rfl rfl (by decide) (zi_l hl (by decide) (by decide)) ?_
  rw [zp_new rfl]
  refine z_putF zp_o rfl rfl rfl rfl rfl rfl rfl rfl (Nat.le_of_ble_eq_true rfl) ?_
  exact z_cong (zp_set (fs' := zfl hb.2.1 1)) rfl rfl kk
theorem zi_1 (hl : zHl X hb) (kk : Z X MX11_init f (zp X hb (zfl hb.2.1 2) 2 9246) 22 L [] Q) : Z X MX11_init f (zp X hb (zfl hb.2.1 1) 1 8222) 17 L [.int 1024, .ref hb.2.1] Q := by
  refine z_newI 1024 rfl rfl (by decide) (zi_l hl (by decide) (by decide)) ?_
  rw [zp_new rfl]
  refine z_putF zp_o rfl rfl rfl rfl rfl rfl rfl rfl (Nat.le_of_ble_eq_true rfl) ?_
  exact z_cong (zp_set (fs' := zfl hb.2.1 2)) rfl rfl kk
theorem zi_2 (hl : zHl X hb) (kk : Z X MX11_init f (zp X hb (zfl hb.2.1 3) 3 9286) 30 L [] Q) : Z X MX11_init f (zp X hb (zfl hb.2.1 2) 2 9246) 25 L [.int 40, .ref hb.2.1] Q := by
  refine z_newI 40 rfl rfl (by decide) (zi_l hl (by decide) (by decide)) ?_
  rw [zp_new rfl]
  refine z_putF zp_o rfl rfl rfl rfl rfl rfl rfl rfl (Nat.le_of_ble_eq_true rfl) ?_
  exact z_cong (zp_set (fs' := zfl hb.2.1 3)) rfl rfl kk
theorem zi_3 (hl : zHl X hb) (kk : Z X MX11_init f (zp X hb (zfl hb.2.1 4) 4 9326) 38 L [] Q) : Z X MX11_init f (zp X hb (zfl hb.2.1 3) 3 9286) 33 L [.int 40, .ref hb.2.1] Q := by
  refine z_newI 40 rfl rfl (by decide) (zi_l hl (by decide) (by decide)) ?_
  rw [zp_new rfl]
  refine z_putF zp_o rfl rfl rfl rfl rfl rfl rfl rfl (Nat.le_of_ble_eq_true rfl) ?_
  exact z_cong (zp_set (fs' := zfl hb.2.1 4)) rfl rfl kk
theorem zi_4 (hl : zHl X hb) (kk : Z X MX11_init f (zp X hb (zfl hb.2.1 5) 5 9350) 46 L [] Q) : Z X MX11_init f (zp X hb (zfl hb.2.1 4) 4 9326) 41 L [.int 24, .ref hb.2.1] Q := by
  refine z_newI 24 rfl rfl (by decide) (zi_l hl (by decide) (by decide)) ?_
  rw [zp_new rfl]
  refine z_putF zp_o rfl rfl rfl rfl rfl rfl rfl rfl (Nat.le_of_ble_eq_true rfl) ?_
  exact z_cong (zp_set (fs' := zfl hb.2.1 5)) rfl rfl kk
theorem zi_5 (hl : zHl X hb) (kk : Z X MX11_init f (zp X hb (zfl hb.2.1 6) 6 9374) 54 L [] Q) : Z X MX11_init f (zp X hb (zfl hb.2.1 5) 5 9350) 49 L [.int 24, .ref hb.2.1] Q := by
  refine z_newI 24 rfl rfl (by decide) (zi_l hl (by decide) (by decide)) ?_
  rw [zp_new rfl]
  refine z_putF zp_o rfl rfl rfl rfl rfl rfl rfl rfl (Nat.le_of_ble_eq_true rfl) ?_
  exact z_cong (zp_set (fs' := zfl hb.2.1 6)) rfl rfl kk
theorem zi_6 (hl : zHl X hb) (kk : Z X MX11_init f (zp X hb (zfl hb.2.1 7) 7 9398) 62 L [] Q) : Z X MX11_init f (zp X hb (zfl hb.2.1 6) 6 9374) 57 L [.int 24, .ref hb.2.1] Q := by
  refine z_newI 24 rfl rfl (by decide) (zi_l hl (by decide) (by decide)) ?_
  rw [zp_new rfl]
  refine z_putF zp_o rfl rfl rfl rfl rfl rfl rfl rfl (Nat.le_of_ble_eq_true rfl) ?_
  exact z_cong (zp_set (fs' := zfl hb.2.1 7)) rfl rfl kk
theorem zi_7 (hl : zHl X hb) (kk : Z X MX11_init f (zp X hb (zfl hb.2.1 8) 8 9494) 70 L [] Q) : Z X MX11_init f (zp X hb (zfl hb.2.1 7) 7 9398) 65 L [.int 96, .ref hb.2.1] Q := by
  refine z_newI 96 rfl rfl (by decide) (zi_l hl (by decide) (by decide)) ?_
  rw [zp_new rfl]
  refine z_putF zp_o rfl rfl rfl rfl rfl rfl rfl rfl (Nat.le_of_ble_eq_true rfl) ?_
  exact z_cong (zp_set (fs' := zfl hb.2.1 8)) rfl rfl kk
theorem zi_8 (hl : zHl X hb) (kk : Z X MX11_init f (zp X hb (zfl hb.2.1 9) 9 9590) 78 L [] Q) : Z X MX11_init f (zp X hb (zfl hb.2.1 8) 8 9494) 73 L [.int 96, .ref hb.2.1] Q := by
  refine z_newI 96 rfl rfl (by decide) (zi_l hl (by decide) (by decide)) ?_
  rw [zp_new rfl]
  refine z_putF zp_o rfl rfl rfl rfl rfl rfl rfl rfl (Nat.le_of_ble_eq_true rfl) ?_
  exact z_cong (zp_set (fs' := zfl hb.2.1 9)) rfl rfl kk
theorem zi_9 (hl : zHl X hb) (kk : Z X MX11_init f (zp X hb (zfl hb.2.1 10) 10 9686) 86 L [] Q) : Z X MX11_init f (zp X hb (zfl hb.2.1 9) 9 9590) 81 L [.int 96, .ref hb.2.1] Q := by
  refine z_newZ 96 rfl rfl (by decide) (zi_l hl (by decide) (by decide)) ?_
  rw [zp_new rfl]
  refine z_putF zp_o rfl rfl rfl rfl rfl rfl rfl rfl (Nat.le_of_ble_eq_true rfl) ?_
  exact z_cong (zp_set (fs' := zfl hb.2.1 10)) rfl rfl kk
theorem zi_10 (hl : zHl X hb) (kk : Z X MX11_init f (zp X hb (zfl hb.2.1 11) 11 10206) 95 L [] Q) : Z X MX11_init f (zp X hb (zfl hb.2.1 10) 10 9686) 90 L [.int 520, .ref hb.2.1] Q := by
  refine z_newI 520 rfl rfl (by decide) (zi_l hl (by decide) (by decide)) ?_
  rw [zp_new rfl]
  refine z_putF zp_o rfl rfl rfl rfl rfl rfl rfl rfl (Nat.le_of_ble_eq_true rfl) ?_
  exact z_cong (zp_set (fs' := zfl hb.2.1 11)) rfl rfl kk
theorem zi_11 (hl : zHl X hb) (kk : Z X MX11_init f (zp X hb (zfl hb.2.1 12) 12 10726) 104 L [] Q) : Z X MX11_init f (zp X hb (zfl hb.2.1 11) 11 10206) 99 L [.int 520, .ref hb.2.1] Q := by
  refine z_newI 520 rfl rfl (by decide) (zi_l hl (by decide) (by decide)) ?_
  rw [zp_new rfl]
  refine z_putF zp_o rfl rfl rfl rfl rfl rfl rfl rfl (Nat.le_of_ble_eq_true rfl) ?_
  exact z_cong (zp_set (fs' := zfl hb.2.1 12)) rfl rfl kk
theorem zi_12 (hl : zHl X hb) (kk : Z X MX11_init f (zp X hb (zfl hb.2.1 13) 13 11246) 113 L [] Q) : Z X MX11_init f (zp X hb (zfl hb.2.1 12) 12 10726) 108 L [.int 520, .ref hb.2.1] Q := by
  refine z_newI 520 rfl rfl (by decide) (zi_l hl (by decide) (by decide)) ?_
  rw [zp_new rfl]
  refine z_putF zp_o rfl rfl rfl rfl rfl rfl rfl rfl (Nat.le_of_ble_eq_true rfl) ?_
  exact z_cong (zp_set (fs' := zfl hb.2.1 13)) rfl rfl kk
theorem zi_13 (hl : zHl X hb) (kk : Z X MX11_init f (zp X hb (zfl hb.2.1 14) 14 11766) 122 L [] Q) : Z X MX11_init f (zp X hb (zfl hb.2.1 13) 13 11246) 117 L [.int 520, .ref hb.2.1] Q := by
  refine z_newI 520 rfl rfl (by decide) (zi_l hl (by decide) (by decide)) ?_
  rw [zp_new rfl]
  refine z_putF zp_o rfl rfl rfl rfl rfl rfl rfl rfl (Nat.le_of_ble_eq_true rfl) ?_
  exact z_cong (zp_set (fs' := zfl hb.2.1 14)) rfl rfl kk
theorem zi_14 (hl : zHl X hb) (kk : Z X MX11_init f (zp X hb (zfl hb.2.1 15) 15 12286) 131 L [] Q) : Z X MX11_init f (zp X hb (zfl hb.2.1 14) 14 11766) 126 L [.int 520, .ref hb.2.1] Q := by
  refine z_newI 520 rfl rfl (by decide) (zi_l hl (by decide) (by decide)) ?_
  rw [zp_new rfl]
  refine z_putF zp_o rfl rfl rfl rfl rfl rfl rfl rfl (Nat.le_of_ble_eq_true rfl) ?_
  exact z_cong (zp_set (fs' := zfl hb.2.1 15)) rfl rfl kk
theorem zi_15 (hl : zHl X hb) (kk : Z X MX11_init f (zp X hb (zfl hb.2.1 16) 16 12806) 140 L [] Q) : Z X MX11_init f (zp X hb (zfl hb.2.1 15) 15 12286) 135 L [.int 520, .ref hb.2.1] Q := by
  refine z_newI 520 rfl rfl (by decide) (zi_l hl (by decide) (by decide)) ?_
  rw [zp_new rfl]
  refine z_putF zp_o rfl rfl rfl rfl rfl rfl rfl rfl (Nat.le_of_ble_eq_true rfl) ?_
  exact z_cong (zp_set (fs' := zfl hb.2.1 16)) rfl rfl kk
theorem zi_16 (hl : zHl X hb) (kk : Z X MX11_init f (zp X hb (zfl hb.2.1 17) 17 13326) 149 L [] Q) : Z X MX11_init f (zp X hb (zfl hb.2.1 16) 16 12806) 144 L [.int 520, .ref hb.2.1] Q := by
  refine z_newI 520 rfl rfl (by decide) (zi_l hl (by decide) (by decide)) ?_
  rw [zp_new rfl]
  refine z_putF zp_o rfl rfl rfl rfl rfl rfl rfl rfl (Nat.le_of_ble_eq_true rfl) ?_
  exact z_cong (zp_set (fs' := zfl hb.2.1 17)) rfl rfl kk
theorem zi_17 (hl : zHl X hb) (kk : Z X MX11_init f (zp X hb (zfl hb.2.1 18) 18 13846) 158 L [] Q) : Z X MX11_init f (zp X hb (zfl hb.2.1 17) 17 13326) 153 L [.int 520, .ref hb.2.1] Q := by
  refine z_newI 520 rfl rfl (by decide) (zi_l hl (by decide) (by decide)) ?_
  rw [zp_new rfl]
  refine z_putF zp_o rfl rfl rfl rfl rfl rfl rfl rfl (Nat.le_of_ble_eq_true rfl) ?_
  exact z_cong (zp_set (fs' := zfl hb.2.1 18)) rfl rfl kk
theorem zi_18 (hl : zHl X hb) (kk : Z X MX11_init f (zp X hb (zfl hb.2.1 19) 19 14366) 167 L [] Q) : Z X MX11_init f (zp X hb (zfl hb.2.1 18) 18 13846) 162 L [.int 520, .ref hb.2.1] Q := by
  refine z_newI 520 rfl rfl (by decide) (zi_l hl (by decide) (by decide)) ?_
  rw [zp_new rfl]
  refine z_putF zp_o rfl rfl rfl rfl rfl rfl rfl rfl (Nat.le_of_ble_eq_true rfl) ?_
  exact z_cong (zp_set (fs' := zfl hb.2.1 19)) rfl rfl kk
theorem zi_19 (hl : zHl X hb) (kk : Z X MX11_init f (zp X hb (zfl hb.2.1 20) 20 19666) 176 L [] Q) : Z X MX11_init f (zp X hb (zfl hb.2.1 19) 19 14366) 171 L [.int 5300, .ref hb.2.1] Q := by
  refine z_newI 5300 rfl rfl (by decide) (zi_l hl (by decide) (by decide)) ?_
  rw [zp_new rfl]
  refine z_putF zp_o rfl rfl rfl rfl rfl rfl rfl rfl (Nat.le_of_ble_eq_true rfl) ?_
  exact z_cong (zp_set (fs' := zfl hb.2.1 20)) rfl rfl kk
theorem zi_20 (hl : zHl X hb) (kk : Z X MX11_init f (zp X hb (zfl hb.2.1 21) 21 20186) 185 L [] Q) : Z X MX11_init f (zp X hb (zfl hb.2.1 20) 20 19666) 180 L [.int 520, .ref hb.2.1] Q := by
  refine z_newZ 520 rfl rfl (by decide) (zi_l hl (by decide) (by decide)) ?_
  rw [zp_new rfl]
  refine z_putF zp_o rfl rfl rfl rfl rfl rfl rfl rfl (Nat.le_of_ble_eq_true rfl) ?_
  exact z_cong (zp_set (fs' := zfl hb.2.1 21)) rfl rfl kk
theorem zi_21 (hl : zHl X hb) (kk : Z X MX11_init f (zp X hb (zfl hb.2.1 22) 22 28378) 194 L [] Q) : Z X MX11_init f (zp X hb (zfl hb.2.1 21) 21 20186) 189 L [.int 8192, .ref hb.2.1] Q := by
  refine z_newY 8192 rfl rfl (by decide) (zi_l hl (by decide) (by decide)) ?_
  rw [zp_new rfl]
  refine z_putF zp_o rfl rfl rfl rfl rfl rfl rfl rfl (Nat.le_of_ble_eq_true rfl) ?_
  exact z_cong (zp_set (fs' := zfl hb.2.1 22)) rfl rfl kk
theorem zi_all (hl : zHl X hb) {x y : Option Value} (kk : Z X MX11_init f (zp X hb (zfl hb.2.1 22) 22 28378) 194 [some (.ref hb.2.1), x, y, none] [] Q) : Z X MX11_init f (zp X hb (zfl hb.2.1 0) 0 30) 8 [some (.ref hb.2.1), x, y, none] [.int 8192, .ref hb.2.1] Q := by
  refine zi_0 hl ?_
  refine z_go 90 rfl ?_
  refine zi_1 hl ?_
  refine z_go 90 rfl ?_
  refine zi_2 hl ?_
  refine z_go 90 rfl ?_
  refine zi_3 hl ?_
  refine z_go 90 rfl ?_
  refine zi_4 hl ?_
  refine z_go 90 rfl ?_
  refine zi_5 hl ?_
  refine z_go 90 rfl ?_
  refine zi_6 hl ?_
  refine z_go 90 rfl ?_
  refine zi_7 hl ?_
  refine z_go 90 rfl ?_
  refine zi_8 hl ?_
  refine z_go 90 rfl ?_
  refine zi_9 hl ?_
  refine z_go 90 rfl ?_
  refine zi_10 hl ?_
  refine z_go 90 rfl ?_
  refine zi_11 hl ?_
  refine z_go 90 rfl ?_
  refine zi_12 hl ?_
  refine z_go 90 rfl ?_
  refine zi_13 hl ?_
  refine z_go 90 rfl ?_
  refine zi_14 hl ?_
  refine z_go 90 rfl ?_
  refine zi_15 hl ?_
  refine z_go 90 rfl ?_
  refine zi_16 hl ?_
  refine z_go 90 rfl ?_
  refine zi_17 hl ?_
  refine z_go 90 rfl ?_
  refine zi_18 hl ?_
  refine z_go 90 rfl ?_
  refine zi_19 hl ?_
  refine z_go 90 rfl ?_
  refine zi_20 hl ?_
  refine z_go 90 rfl ?_
  refine zi_21 hl ?_
  exact kk
/-- n and q are stored; the shadows are laid -/
theorem zi_end (G : zG X) (hl : zHl X hb) (p q : Int32) (kk : Z X MX11_init f (zr X (zadd hb 23 28378) hb.2.1 (sIni p q)) 314 [some (.ref hb.2.1), some (.int p), some (.int q), some (.int (nI (sNn p / 8)))] [] Q) : Z X MX11_init f (zp X hb (zfl hb.2.1 22) 22 28378) 194 [some (.ref hb.2.1), some (.int p), some (.int q), none] [] Q := by
  have hN := sNn_b p
  have hQ := sQq_b p q
  have t0 : (0 : Int32).toInt = 0 := rfl
  have t1 : (1024 : Int32).toInt = 1024 := rfl
  have t2 : (8192 : Int32).toInt = 8192 := rfl
  have t6 : (64 : Int32).toInt = 64 := rfl
  have tN := i_nI (n := sNn p) (by omega)
  have lp : Z X MX11_init f (zr X (zadd hb 23 28378) hb.2.1 (zV (zV (fun _ _ => 0) 1 (fun _ => nI (sNn p))) 2 (fun _ => nI (sQq p q)))) 253 [some (.ref hb.2.1), some (.int p), some (.int q), some (.int 0)] [.ref hb.2.1, .int 0] Q := by
    refine r_v1 (show _ = nI (sNn p) from rfl) rfl rfl rfl ?_
    refine z_go 90 rfl ?_
    refine z_div rfl (by decide) ?_
    refine z_go 90 rfl ?_
    rw [show nI (sNn p) / (8 : Int32) = nI (sNn p / 8) from n_div (b := 8) (by omega) (by omega) (by omega)]
    refine z_eqS (S' := zV (zV (zV (fun _ _ => 0) 1 (fun _ => nI (sNn p))) 2 (fun _ => nI (sQq p q))) 4 (sIniG (sNn p) 0)) ?_ ?_
    · rw [show sIniG (sNn p) 0 = (zV (zV (fun _ _ => 0) 1 (fun _ => nI (sNn p))) 2 (fun _ => nI (sQq p q))) 4 from funext fun g => if_neg (by omega), zV_same]
    have H := zdown (P := fun k => Z X MX11_init f (zr X (zadd hb 23 28378) hb.2.1 (zV (zV (zV (fun _ _ => 0) 1 (fun _ => nI (sNn p))) 2 (fun _ => nI (sQq p q))) 4 (sIniG (sNn p) k))) 259 [some (.ref hb.2.1), some (.int p), some (.int q), some (.int (nI k))] [.int (nI (sNn p / 8)), .int (nI k)] Q) (sNn p / 8) (fun k hk ih => ?_) 0 (Nat.zero_le _)
    · exact H
    refine z_br rfl rfl (fun c => ?_) (fun c => ?_) <;> (try dsimp only at c)
    · rw [n_le (by omega) (by omega)] at c
      have : k = sNn p / 8 := by omega
      subst this
      exact kk
    rw [n_le (by omega) (by omega)] at c
    have st : ∀ v : Int32, v = (if 8 * k < sNn p / 8 then 249 else if 8 * k < sNn p / 4 then 0 else 250) → Z X MX11_init f (zr X (zadd hb 23 28378) hb.2.1 (zV (zV (zV (fun _ _ => 0) 1 (fun _ => nI (sNn p))) 2 (fun _ => nI (sQq p q))) 4 (sIniG (sNn p) k))) 307 [some (.ref hb.2.1), some (.int p), some (.int q), some (.int (nI k))] [.int v, .int (nI k), .ref (hb.2.1 + 2)] Q := by
      intro v hv
      refine r_st4 k (i_nI (by omega)) (by omega) rfl ?_
      refine z_go 90 rfl ?_
      refine r_v1 (show _ = nI (sNn p) from rfl) rfl rfl rfl ?_
      refine z_go 90 rfl ?_
      refine z_div rfl (by decide) ?_
      refine z_go 90 rfl ?_
      rw [show nI (sNn p) / (8 : Int32) = nI (sNn p / 8) from n_div (b := 8) (by omega) (by omega) (by omega), show nI k + (1 : Int32) = nI (k + 1) from n_succ k]
      refine z_eqS ?_ (ih (by omega))
      rw [zV_V]
      refine congrArg (zV (zV (zV (fun _ _ => 0) 1 (fun _ => nI (sNn p))) 2 (fun _ => nI (sQq p q))) 4) (funext fun g => ?_)
      show (if g = k then v else sIniG (sNn p) k g) = sIniG (sNn p) (k + 1) g
      unfold sIniG
      by_cases e : g = k
      · rw [if_pos e, if_pos (show g < k + 1 by omega), hv, e]
      · rw [if_neg e]
        by_cases d : g < k
        · rw [if_pos d, if_pos (show g < k + 1 by omega)]
        · rw [if_neg d, if_neg (show ¬ g < k + 1 by omega)]
    refine z_go 90 rfl ?_
    refine z_get zr_o rfl rfl rfl rfl ?_
    refine z_go 90 rfl ?_
    rw [show (8 : Int32) * nI k = nI (8 * k) from n_mul 8 k]
    refine r_v1 (show _ = nI (sNn p) from rfl) rfl rfl rfl ?_
    refine z_go 90 rfl ?_
    refine z_div rfl (by decide) ?_
    refine z_go 90 rfl ?_
    rw [show nI (sNn p) / (8 : Int32) = nI (sNn p / 8) from n_div (b := 8) (by omega) (by omega) (by omega)]
    refine z_br rfl rfl (fun d => ?_) (fun d => ?_) <;> (try dsimp only at d)
    · rw [n_le (by omega) (by omega)] at d
      refine z_go 90 rfl ?_
      rw [show (8 : Int32) * nI k = nI (8 * k) from n_mul 8 k]
      refine r_v1 (show _ = nI (sNn p) from rfl) rfl rfl rfl ?_
      refine z_go 90 rfl ?_
      refine z_div rfl (by decide) ?_
      refine z_go 90 rfl ?_
      rw [show nI (sNn p) / (4 : Int32) = nI (sNn p / 4) from n_div (b := 4) (by omega) (by omega) (by omega)]
      refine z_br rfl rfl (fun e => ?_) (fun e => ?_) <;> (try dsimp only at e)
      · rw [n_le (by omega) (by omega)] at e
        refine z_go 90 rfl ?_
        exact st 250 (by rw [if_neg (by omega), if_neg (by omega)])
      · rw [n_le (by omega) (by omega)] at e
        refine z_go 90 rfl ?_
        exact st 0 (by rw [if_neg (by omega), if_pos (by omega)])
    · rw [n_le (by omega) (by omega)] at d
      refine z_go 90 rfl ?_
      exact st 249 (by rw [if_pos (by omega)])
  have pq : ∀ y : Int32, y = nI (sQq p q) → Z X MX11_init f (zp X hb ((zfl hb.2.1 22).set 1 (.int (nI (sNn p)))) 22 28378) 246 [some (.ref hb.2.1), some (.int p), some (.int q), none] [.int y, .ref hb.2.1] Q := by
    rintro y rfl
    refine z_putF zp_o rfl rfl rfl rfl rfl rfl rfl rfl (Nat.le_of_ble_eq_true rfl) ?_
    rw [zp_set]
    refine z_cong (zp_end (S := zV (zV (fun _ _ => 0) 1 (fun _ => nI (sNn p))) 2 (fun _ => nI (sQq p q))) rfl (by
      intro i hi hi2
      match i, hi, hi2 with
      | 0, hi, _ => omega
      | 1, _, _ => rfl
      | 2, _, _ => rfl
      | 3, _, _ => rfl
      | 4, _, _ => rfl
      | 5, _, _ => rfl
      | 6, _, _ => rfl
      | 7, _, _ => rfl
      | 8, _, _ => rfl
      | 9, _, _ => rfl
      | 10, _, _ => rfl
      | 11, _, _ => rfl
      | 12, _, _ => rfl
      | 13, _, _ => rfl
      | 14, _, _ => rfl
      | 15, _, _ => rfl
      | 16, _, _ => rfl
      | 17, _, _ => rfl
      | 18, _, _ => rfl
      | 19, _, _ => rfl
      | 20, _, _ => rfl
      | 21, _, _ => rfl
      | 22, _, _ => rfl
      | n + 23, _, h => omega)) rfl rfl ?_
    refine z_go 90 rfl ?_
    exact lp
  have pn : ∀ x : Int32, x = nI (sNn p) → Z X MX11_init f (zp X hb (zfl hb.2.1 22) 22 28378) 223 [some (.ref hb.2.1), some (.int p), some (.int q), none] [.int x, .ref hb.2.1] Q := by
    rintro x rfl
    refine z_putF zp_o rfl rfl rfl rfl rfl rfl rfl rfl (Nat.le_of_ble_eq_true rfl) ?_
    rw [zp_set]
    refine z_go 90 rfl ?_
    refine z_br rfl rfl (fun c => ?_) (fun c => ?_) <;> (try dsimp only at c)
    · rw [i_lt] at c
      refine z_go 90 rfl ?_
      exact pq 1024 (by unfold sQq; rw [if_neg (by omega)]; rfl)
    rw [i_lt] at c
    refine z_go 90 rfl ?_
    refine z_get zp_o rfl rfl rfl rfl ?_
    refine z_go 90 rfl ?_
    refine z_br rfl rfl (fun d => ?_) (fun d => ?_) <;> (try dsimp only at d)
    · rw [i_lt] at d
      refine z_go 90 rfl ?_
      exact pq 1024 (by unfold sQq; rw [if_neg (by omega)]; rfl)
    · rw [i_lt] at d
      refine z_go 90 rfl ?_
      refine pq q ?_
      unfold sQq
      rw [if_pos (by omega)]
      apply i_ext
      rw [i_nI (by omega)]
      omega
  refine z_go 90 rfl ?_
  refine z_br rfl rfl (fun c => ?_) (fun c => ?_) <;> (try dsimp only at c)
  · rw [i_lt] at c
    refine z_go 90 rfl ?_
    exact pn 4096 (by unfold sNn; rw [if_neg (by omega)]; rfl)
  rw [i_lt] at c
  refine z_go 90 rfl ?_
  refine z_br rfl rfl (fun d => ?_) (fun d => ?_) <;> (try dsimp only at d)
  · rw [i_lt] at d
    refine z_go 90 rfl ?_
    exact pn 4096 (by unfold sNn; rw [if_neg (by omega)]; rfl)
  rw [i_lt] at d
  refine z_go 90 rfl ?_
  refine z_rem rfl (by decide) ?_
  have hr := i_rem (x := p) (y := 64) (by omega) (by decide)
  rw [t6] at hr
  refine z_br rfl rfl (fun e => ?_) (fun e => ?_) <;> (try dsimp only at e)
  · rw [i_eq] at e
    refine z_go 90 rfl ?_
    exact pn 4096 (by unfold sNn; rw [if_neg (by omega)]; rfl)
  · rw [i_eq] at e
    refine z_go 90 rfl ?_
    refine pn p ?_
    unfold sNn
    rw [if_pos (by omega)]
    apply i_ext
    rw [i_nI (by omega)]
    omega
theorem rc_init (G : zG X) (p q : Int32) (hl : zHl X hb) : ZM X MX11_init 1 127 [.ref hb.2.1, .int p, .int q] (znew hb (.inr (12, zf0)) 30) (zX (zr X (zadd hb 23 28378) hb.2.1 (sIni p q)) none) := by
  rw [zp_0 (X := X)]
  refine zm_of_z G KX11_init rfl rfl ?_
  refine z_go 90 rfl ?_
  refine z_obj rfl rfl zoiI zoiC rfl rfl rfl ?_
  refine z_go 90 rfl ?_
  refine zi_all hl ?_
  refine zi_end G hl p q ?_
  exact z_vret rfl rfl ⟨rfl, rfl⟩
end ZIN
