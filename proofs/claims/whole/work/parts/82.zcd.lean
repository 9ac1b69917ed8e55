section ZCD
variable {X : zCx} {S S' : zS} {D D' : Nat → Nat → Nat} {W W' : Nat → Nat → Int32} {K K' : Nat → Nat → Nat}
theorem zcd_0 (ed1 : D' 1 = D 1) (ed4 : D' 4 = D 4) (ed8 : D' 8 = D 8) (ed15 : D' 15 = D 15) (ed22 : D' 22 = D 22) (ed25 : D' 25 = D 25) (i : Nat) : zce X S' D' W' K' 0 i = zce X S D W K 0 i := by
  simp only [zce, zln, zel, zow, sN, ed1, ed4, ed8, ed15, ed22, ed25]
theorem zcd_1 (es1 : S' 1 = S 1) (ed2 : D' 2 = D 2) (ed3 : D' 3 = D 3) (i : Nat) : zce X S' D' W' K' 1 i = zce X S D W K 1 i := by
  simp only [zce, zln, zel, zow, sN, es1, ed2, ed3]
theorem zcd_2 (es1 : S' 1 = S 1) (es3 : S' 3 = S 3) (i : Nat) : zce X S' D' W' K' 2 i = zce X S D W K 2 i := by
  have ez : gM S' = gM S := by
    funext j
    simp only [gM, es3]
  simp only [zce, ez, sN, es1, es3]
theorem zcd_3 (es1 : S' 1 = S 1) (es4 : S' 4 = S 4) (i : Nat) : zce X S' D' W' K' 3 i = zce X S D W K 3 i := by
  simp only [zce, zln, zel, zow, sN, es1, es4]
theorem zcd_4 (ed1 : D' 1 = D 1) (ed5 : D' 5 = D 5) (i : Nat) : zce X S' D' W' K' 4 i = zce X S D W K 4 i := by
  simp only [zce, zln, zel, zow, sN, ed1, ed5]
theorem zcd_5 (es7 : S' 7 = S 7) (ed6 : D' 6 = D 6) (ew5 : W' 5 = W 5) (i : Nat) : zce X S' D' W' K' 5 i = zce X S D W K 5 i := by
  simp only [zce, zln, zel, zow, sN, es7, ed6, ew5]
theorem zcd_6 (es7 : S' 7 = S 7) (ed7 : D' 7 = D 7) (ek6 : K' 6 = K 6) (i : Nat) : zce X S' D' W' K' 6 i = zce X S D W K 6 i := by
  have ez : zes S' D' K' 5 i = zes S D K 5 i := by
    funext j
    simp only [zes, zln, zel, sN, es7, ed7, ek6]
  simp only [zce, ez, es7, ed7, ek6]
theorem zcd_7 (es5 : S' 5 = S 5) (es6 : S' 6 = S 6) (i : Nat) : zce X S' D' W' K' 7 i = zce X S D W K 7 i := by
  simp only [zce, zln, zel, zow, sN, es5, es6]
theorem zcd_8 (ed1 : D' 1 = D 1) (ed9 : D' 9 = D 9) (i : Nat) : zce X S' D' W' K' 8 i = zce X S D W K 8 i := by
  simp only [zce, zln, zel, zow, sN, ed1, ed9]
theorem zcd_9 (es14 : S' 14 = S 14) (ed10 : D' 10 = D 10) (ew9 : W' 9 = W 9) (i : Nat) : zce X S' D' W' K' 9 i = zce X S D W K 9 i := by
  simp only [zce, zln, zel, zow, sN, es14, ed10, ew9]
theorem zcd_10 (es14 : S' 14 = S 14) (ed11 : D' 11 = D 11) (ek10 : K' 10 = K 10) (i : Nat) : zce X S' D' W' K' 10 i = zce X S D W K 10 i := by
  have ez : zes S' D' K' 9 i = zes S D K 9 i := by
    funext j
    simp only [zes, zln, zel, sN, es14, ed11, ek10]
  simp only [zce, ez, es14, ed11, ek10]
theorem zcd_11 (es8 : S' 8 = S 8) (es9 : S' 9 = S 9) (ed12 : D' 12 = D 12) (i : Nat) : zce X S' D' W' K' 11 i = zce X S D W K 11 i := by
  simp only [zce, zln, zel, zow, sN, es8, es9, ed12]
theorem zcd_12 (es10 : S' 10 = S 10) (ed13 : D' 13 = D 13) (ew12 : W' 12 = W 12) (i : Nat) : zce X S' D' W' K' 12 i = zce X S D W K 12 i := by
  simp only [zce, zln, zel, zow, sN, es10, ed13, ew12]
theorem zcd_13 (es10 : S' 10 = S 10) (ed14 : D' 14 = D 14) (ek13 : K' 13 = K 13) (i : Nat) : zce X S' D' W' K' 13 i = zce X S D W K 13 i := by
  have ez : zes S' D' K' 12 i = zes S D K 12 i := by
    funext j
    simp only [zes, zln, zel, sN, es10, ed14, ek13]
  simp only [zce, ez, es10, ed14, ek13]
theorem zcd_14 (es11 : S' 11 = S 11) (es12 : S' 12 = S 12) (es13 : S' 13 = S 13) (i : Nat) : zce X S' D' W' K' 14 i = zce X S D W K 14 i := by
  simp only [zce, zln, zel, zow, sN, es11, es12, es13]
theorem zcd_15 (es2 : S' 2 = S 2) (es18 : S' 18 = S 18) (es20 : S' 20 = S 20) (es23 : S' 23 = S 23) (es24 : S' 24 = S 24) (es25 : S' 25 = S 25) (ed1 : D' 1 = D 1) (ed16 : D' 16 = D 16) (ed19 : D' 19 = D 19) (ed21 : D' 21 = D 21) (i : Nat) : zce X S' D' W' K' 15 i = zce X S D W K 15 i := by
  have a2 : sN S' 2 = sN S 2 := by
    funext i
    simp only [sN, es2]
  have a18 : sN S' 18 = sN S 18 := by
    funext i
    simp only [sN, es18]
  have a20 : sN S' 20 = sN S 20 := by
    funext i
    simp only [sN, es20]
  have a23 : sN S' 23 = sN S 23 := by
    funext i
    simp only [sN, es23]
  have a24 : sN S' 24 = sN S 24 := by
    funext i
    simp only [sN, es24]
  have a25 : sN S' 25 = sN S 25 := by
    funext i
    simp only [sN, es25]
  show (Sum.inr (5, [.ref (D' 1 0), .int (nI (sN S' 2 0)), .ref (D' 16 0), .ref (D' 19 0), .ref (D' 21 0), .int (nI (sLive S' (sN S' 23 0))), .int (nI (sLiveB S' (sN S' 23 0))), .int (nI (sHB S'))]) : va_E) = Sum.inr (5, [.ref (D 1 0), .int (nI (sN S 2 0)), .ref (D 16 0), .ref (D 19 0), .ref (D 21 0), .int (nI (sLive S (sN S 23 0))), .int (nI (sLiveB S (sN S 23 0))), .int (nI (sHB S))])
  unfold sLive sLiveB sHB
  rw [a2, a18, a20, a23, a24, a25, ed1, ed16, ed19, ed21]
theorem zcd_16 (es23 : S' 23 = S 23) (ed17 : D' 17 = D 17) (ew16 : W' 16 = W 16) (i : Nat) : zce X S' D' W' K' 16 i = zce X S D W K 16 i := by
  simp only [zce, zln, zel, zow, sN, es23, ed17, ew16]
theorem zcd_17 (es23 : S' 23 = S 23) (ed18 : D' 18 = D 18) (ek17 : K' 17 = K 17) (i : Nat) : zce X S' D' W' K' 17 i = zce X S D W K 17 i := by
  have ez : zes S' D' K' 16 i = zes S D K 16 i := by
    funext j
    simp only [zes, zln, zel, sN, es23, ed18, ek17]
  simp only [zce, ez, es23, ed18, ek17]
theorem zcd_18 (es15 : S' 15 = S 15) (es16 : S' 16 = S 16) (es17 : S' 17 = S 17) (es18 : S' 18 = S 18) (es19 : S' 19 = S 19) (es20 : S' 20 = S 20) (es21 : S' 21 = S 21) (es22 : S' 22 = S 22) (ew100 : W' 100 = W 100) (ew101 : W' 101 = W 101) (i : Nat) : zce X S' D' W' K' 18 i = zce X S D W K 18 i := by
  simp only [zce, zln, zel, zow, sN, es15, es16, es17, es18, es19, es20, es21, es22, ew100, ew101]
theorem zcd_19 (es25 : S' 25 = S 25) (ed20 : D' 20 = D 20) (ew19 : W' 19 = W 19) (i : Nat) : zce X S' D' W' K' 19 i = zce X S D W K 19 i := by
  simp only [zce, zln, zel, zow, sN, es25, ed20, ew19]
theorem zcd_20 (es24 : S' 24 = S 24) (es25 : S' 25 = S 25) (ed18 : D' 18 = D 18) (ek20 : K' 20 = K 20) (i : Nat) : zce X S' D' W' K' 20 i = zce X S D W K 20 i := by
  have ez : zes S' D' K' 19 i = zes S D K 19 i := by
    funext j
    simp only [zes, zln, zel, sN, es24, es25, ed18, ek20]
  simp only [zce, ez, es24, es25, ed18, ek20]
theorem zcd_21 (es1 : S' 1 = S 1) (es18 : S' 18 = S 18) (es19 : S' 19 = S 19) (es20 : S' 20 = S 20) (es23 : S' 23 = S 23) (ed18 : D' 18 = D 18) (i : Nat) : zce X S' D' W' K' 21 i = zce X S D W K 21 i := by
  simp only [zce, zln, zel, zow, sN, es1, es18, es19, es20, es23, ed18]
theorem zcd_22 (ed1 : D' 1 = D 1) (ed4 : D' 4 = D 4) (ed8 : D' 8 = D 8) (ed15 : D' 15 = D 15) (ed23 : D' 23 = D 23) (i : Nat) : zce X S' D' W' K' 22 i = zce X S D W K 22 i := by
  simp only [zce, zln, zel, zow, sN, ed1, ed4, ed8, ed15, ed23]
theorem zcd_23 (ed24 : D' 24 = D 24) (ew23 : W' 23 = W 23) (ek50 : K' 50 = K 50) (i : Nat) : zce X S' D' W' K' 23 i = zce X S D W K 23 i := by
  simp only [zce, zln, zel, zow, sN, ed24, ew23, ek50]
theorem zcd_24 (ed18 : D' 18 = D 18) (ek24 : K' 24 = K 24) (ek50 : K' 50 = K 50) (ek51 : K' 51 = K 51) (i : Nat) : zce X S' D' W' K' 24 i = zce X S D W K 24 i := by
  have ez : zes S' D' K' 23 i = zes S D K 23 i := by
    funext j
    simp only [zes, zln, zel, sN, ed18, ek24, ek50, ek51]
  simp only [zce, ez, ed18, ek24, ek50, ek51]
theorem zcd_25 (es27 : S' 27 = S 27) (ed26 : D' 26 = D 26) (ew25 : W' 25 = W 25) (i : Nat) : zce X S' D' W' K' 25 i = zce X S D W K 25 i := by
  simp only [zce, zln, zel, zow, sN, es27, ed26, ew25]
theorem zcd_26 (es27 : S' 27 = S 27) (ed27 : D' 27 = D 27) (ek26 : K' 26 = K 26) (i : Nat) : zce X S' D' W' K' 26 i = zce X S D W K 26 i := by
  have ez : zes S' D' K' 25 i = zes S D K 25 i := by
    funext j
    simp only [zes, zln, zel, sN, es27, ed27, ek26]
  simp only [zce, ez, es27, ed27, ek26]
theorem zcd_27 (es26 : S' 26 = S 26) (i : Nat) : zce X S' D' W' K' 27 i = zce X S D W K 27 i := by
  simp only [zce, zln, zel, zow, sN, es26]
theorem zce_0 (ed1 : D' 1 = D 1) (ed4 : D' 4 = D 4) (ed8 : D' 8 = D 8) (ed15 : D' 15 = D 15) (ed22 : D' 22 = D 22) (ed25 : D' 25 = D 25) (i : Nat) : zce X S D W K 0 i = zce X S' D' W' K' 0 i := (zcd_0 ed1 ed4 ed8 ed15 ed22 ed25 i).symm
theorem zce_1 (es1 : S' 1 = S 1) (ed2 : D' 2 = D 2) (ed3 : D' 3 = D 3) (i : Nat) : zce X S D W K 1 i = zce X S' D' W' K' 1 i := (zcd_1 es1 ed2 ed3 i).symm
theorem zce_2 (es1 : S' 1 = S 1) (es3 : S' 3 = S 3) (i : Nat) : zce X S D W K 2 i = zce X S' D' W' K' 2 i := (zcd_2 es1 es3 i).symm
theorem zce_3 (es1 : S' 1 = S 1) (es4 : S' 4 = S 4) (i : Nat) : zce X S D W K 3 i = zce X S' D' W' K' 3 i := (zcd_3 es1 es4 i).symm
theorem zce_4 (ed1 : D' 1 = D 1) (ed5 : D' 5 = D 5) (i : Nat) : zce X S D W K 4 i = zce X S' D' W' K' 4 i := (zcd_4 ed1 ed5 i).symm
theorem zce_5 (es7 : S' 7 = S 7) (ed6 : D' 6 = D 6) (ew5 : W' 5 = W 5) (i : Nat) : zce X S D W K 5 i = zce X S' D' W' K' 5 i := (zcd_5 es7 ed6 ew5 i).symm
theorem zce_6 (es7 : S' 7 = S 7) (ed7 : D' 7 = D 7) (ek6 : K' 6 = K 6) (i : Nat) : zce X S D W K 6 i = zce X S' D' W' K' 6 i := (zcd_6 es7 ed7 ek6 i).symm
theorem zce_7 (es5 : S' 5 = S 5) (es6 : S' 6 = S 6) (i : Nat) : zce X S D W K 7 i = zce X S' D' W' K' 7 i := (zcd_7 es5 es6 i).symm
theorem zce_8 (ed1 : D' 1 = D 1) (ed9 : D' 9 = D 9) (i : Nat) : zce X S D W K 8 i = zce X S' D' W' K' 8 i := (zcd_8 ed1 ed9 i).symm
theorem zce_9 (es14 : S' 14 = S 14) (ed10 : D' 10 = D 10) (ew9 : W' 9 = W 9) (i : Nat) : zce X S D W K 9 i = zce X S' D' W' K' 9 i := (zcd_9 es14 ed10 ew9 i).symm
theorem zce_10 (es14 : S' 14 = S 14) (ed11 : D' 11 = D 11) (ek10 : K' 10 = K 10) (i : Nat) : zce X S D W K 10 i = zce X S' D' W' K' 10 i := (zcd_10 es14 ed11 ek10 i).symm
theorem zce_11 (es8 : S' 8 = S 8) (es9 : S' 9 = S 9) (ed12 : D' 12 = D 12) (i : Nat) : zce X S D W K 11 i = zce X S' D' W' K' 11 i := (zcd_11 es8 es9 ed12 i).symm
theorem zce_12 (es10 : S' 10 = S 10) (ed13 : D' 13 = D 13) (ew12 : W' 12 = W 12) (i : Nat) : zce X S D W K 12 i = zce X S' D' W' K' 12 i := (zcd_12 es10 ed13 ew12 i).symm
theorem zce_13 (es10 : S' 10 = S 10) (ed14 : D' 14 = D 14) (ek13 : K' 13 = K 13) (i : Nat) : zce X S D W K 13 i = zce X S' D' W' K' 13 i := (zcd_13 es10 ed14 ek13 i).symm
theorem zce_14 (es11 : S' 11 = S 11) (es12 : S' 12 = S 12) (es13 : S' 13 = S 13) (i : Nat) : zce X S D W K 14 i = zce X S' D' W' K' 14 i := (zcd_14 es11 es12 es13 i).symm
theorem zce_15 (es2 : S' 2 = S 2) (es18 : S' 18 = S 18) (es20 : S' 20 = S 20) (es23 : S' 23 = S 23) (es24 : S' 24 = S 24) (es25 : S' 25 = S 25) (ed1 : D' 1 = D 1) (ed16 : D' 16 = D 16) (ed19 : D' 19 = D 19) (ed21 : D' 21 = D 21) (i : Nat) : zce X S D W K 15 i = zce X S' D' W' K' 15 i := (zcd_15 es2 es18 es20 es23 es24 es25 ed1 ed16 ed19 ed21 i).symm
theorem zce_16 (es23 : S' 23 = S 23) (ed17 : D' 17 = D 17) (ew16 : W' 16 = W 16) (i : Nat) : zce X S D W K 16 i = zce X S' D' W' K' 16 i := (zcd_16 es23 ed17 ew16 i).symm
theorem zce_17 (es23 : S' 23 = S 23) (ed18 : D' 18 = D 18) (ek17 : K' 17 = K 17) (i : Nat) : zce X S D W K 17 i = zce X S' D' W' K' 17 i := (zcd_17 es23 ed18 ek17 i).symm
theorem zce_18 (es15 : S' 15 = S 15) (es16 : S' 16 = S 16) (es17 : S' 17 = S 17) (es18 : S' 18 = S 18) (es19 : S' 19 = S 19) (es20 : S' 20 = S 20) (es21 : S' 21 = S 21) (es22 : S' 22 = S 22) (ew100 : W' 100 = W 100) (ew101 : W' 101 = W 101) (i : Nat) : zce X S D W K 18 i = zce X S' D' W' K' 18 i := (zcd_18 es15 es16 es17 es18 es19 es20 es21 es22 ew100 ew101 i).symm
theorem zce_19 (es25 : S' 25 = S 25) (ed20 : D' 20 = D 20) (ew19 : W' 19 = W 19) (i : Nat) : zce X S D W K 19 i = zce X S' D' W' K' 19 i := (zcd_19 es25 ed20 ew19 i).symm
theorem zce_20 (es24 : S' 24 = S 24) (es25 : S' 25 = S 25) (ed18 : D' 18 = D 18) (ek20 : K' 20 = K 20) (i : Nat) : zce X S D W K 20 i = zce X S' D' W' K' 20 i := (zcd_20 es24 es25 ed18 ek20 i).symm
theorem zce_21 (es1 : S' 1 = S 1) (es18 : S' 18 = S 18) (es19 : S' 19 = S 19) (es20 : S' 20 = S 20) (es23 : S' 23 = S 23) (ed18 : D' 18 = D 18) (i : Nat) : zce X S D W K 21 i = zce X S' D' W' K' 21 i := (zcd_21 es1 es18 es19 es20 es23 ed18 i).symm
theorem zce_22 (ed1 : D' 1 = D 1) (ed4 : D' 4 = D 4) (ed8 : D' 8 = D 8) (ed15 : D' 15 = D 15) (ed23 : D' 23 = D 23) (i : Nat) : zce X S D W K 22 i = zce X S' D' W' K' 22 i := (zcd_22 ed1 ed4 ed8 ed15 ed23 i).symm
theorem zce_23 (ed24 : D' 24 = D 24) (ew23 : W' 23 = W 23) (ek50 : K' 50 = K 50) (i : Nat) : zce X S D W K 23 i = zce X S' D' W' K' 23 i := (zcd_23 ed24 ew23 ek50 i).symm
theorem zce_24 (ed18 : D' 18 = D 18) (ek24 : K' 24 = K 24) (ek50 : K' 50 = K 50) (ek51 : K' 51 = K 51) (i : Nat) : zce X S D W K 24 i = zce X S' D' W' K' 24 i := (zcd_24 ed18 ek24 ek50 ek51 i).symm
theorem zce_25 (es27 : S' 27 = S 27) (ed26 : D' 26 = D 26) (ew25 : W' 25 = W 25) (i : Nat) : zce X S D W K 25 i = zce X S' D' W' K' 25 i := (zcd_25 es27 ed26 ew25 i).symm
theorem zce_26 (es27 : S' 27 = S 27) (ed27 : D' 27 = D 27) (ek26 : K' 26 = K 26) (i : Nat) : zce X S D W K 26 i = zce X S' D' W' K' 26 i := (zcd_26 es27 ed27 ek26 i).symm
theorem zce_27 (es26 : S' 26 = S 26) (i : Nat) : zce X S D W K 27 i = zce X S' D' W' K' 27 i := (zcd_27 es26 i).symm
end ZCD
