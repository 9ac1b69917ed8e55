def CJ6_compare_7cf53_0 : List zEn := [(0, .iload_n 0, 1, 0, 0), (1, .iload_n 1, 2, 0, 0), (2, .if_icmp .ge 7, 5, 0, 9), (5, .iconst (-1), 6, (-1), 0), (6, .goto 13, 9, 0, 19), (9, .iload_n 0, 10, 0, 0), (10, .iload_n 1, 11, 0, 0), (11, .if_icmp .ne 7, 14, 0, 18), (14, .iconst 0, 15, 0, 0), (15, .goto 4, 18, 0, 19), (18, .iconst 1, 19, 1, 0), (19, .ireturn, 20, 0, 0)]
def MJ6_compare_7cf53 : zMI := (yJ6_compare_7cf53, cJ6_compare_7cf53, 2, (some .int), [(99999, CJ6_compare_7cf53_0)], [])
theorem DJ6_compare_7cf53_0 : CJ6_compare_7cf53_0.all (zchk cJ6_compare_7cf53) = true := by decide +kernel
theorem OJ6_compare_7cf53 : zMOK MJ6_compare_7cf53 := by
  intro q hq e he
  simp only [MJ6_compare_7cf53, zFt, List.mem_cons, List.not_mem_nil, or_false] at hq
  rcases hq with rfl
  · exact List.all_eq_true.mp DJ6_compare_7cf53_0 e he
theorem KJ6_compare_7cf53 : zMK MJ6_compare_7cf53 := ⟨OJ6_compare_7cf53, by decide +kernel, z_in (List.mem_of_getElem? (i := 300) (by decide +kernel)), z_in (List.mem_of_getElem? (i := 27) (by decide +kernel)), by decide +kernel, by decide +kernel⟩
theorem SJ6_compare_7cf53 : Jvm.Cond.static yJ6_compare_7cf53 ∈ lw_tbl := z_in (List.mem_of_getElem? (i := 299) (by decide +kernel))
def CJ9_abs_067f4_0 : List zEn := [(0, .lload_n 0, 1, 0, 0), (1, .lconst 0, 2, 0, 0), (2, .lcmp, 3, 0, 0), (3, .ifCond .ge 8, 6, 0, 11), (6, .lload_n 0, 7, 0, 0), (7, .lneg, 8, 0, 0), (8, .goto 4, 11, 0, 12), (11, .lload_n 0, 12, 0, 0), (12, .lreturn, 13, 0, 0)]
def MJ9_abs_067f4 : zMI := (yJ9_abs_067f4, cJ9_abs_067f4, 2, (some .long), [(99999, CJ9_abs_067f4_0)], [])
theorem DJ9_abs_067f4_0 : CJ9_abs_067f4_0.all (zchk cJ9_abs_067f4) = true := by decide +kernel
theorem OJ9_abs_067f4 : zMOK MJ9_abs_067f4 := by
  intro q hq e he
  simp only [MJ9_abs_067f4, zFt, List.mem_cons, List.not_mem_nil, or_false] at hq
  rcases hq with rfl
  · exact List.all_eq_true.mp DJ9_abs_067f4_0 e he
theorem KJ9_abs_067f4 : zMK MJ9_abs_067f4 := ⟨OJ9_abs_067f4, by decide +kernel, z_in (List.mem_of_getElem? (i := 515) (by decide +kernel)), z_in (List.mem_of_getElem? (i := 3) (by decide +kernel)), by decide +kernel, by decide +kernel⟩
theorem SJ9_abs_067f4 : Jvm.Cond.static yJ9_abs_067f4 ∈ lw_tbl := z_in (List.mem_of_getElem? (i := 514) (by decide +kernel))
def CJ9_max_7cf53_0 : List zEn := [(0, .iload_n 0, 1, 0, 0), (1, .iload_n 1, 2, 0, 0), (2, .if_icmp .lt 7, 5, 0, 9), (5, .iload_n 0, 6, 0, 0), (6, .goto 4, 9, 0, 10), (9, .iload_n 1, 10, 0, 0), (10, .ireturn, 11, 0, 0)]
def MJ9_max_7cf53 : zMI := (yJ9_max_7cf53, cJ9_max_7cf53, 2, (some .int), [(99999, CJ9_max_7cf53_0)], [])
theorem DJ9_max_7cf53_0 : CJ9_max_7cf53_0.all (zchk cJ9_max_7cf53) = true := by decide +kernel
theorem OJ9_max_7cf53 : zMOK MJ9_max_7cf53 := by
  intro q hq e he
  simp only [MJ9_max_7cf53, zFt, List.mem_cons, List.not_mem_nil, or_false] at hq
  rcases hq with rfl
  · exact List.all_eq_true.mp DJ9_max_7cf53_0 e he
theorem KJ9_max_7cf53 : zMK MJ9_max_7cf53 := ⟨OJ9_max_7cf53, by decide +kernel, z_in (List.mem_of_getElem? (i := 55) (by decide +kernel)), z_in (List.mem_of_getElem? (i := 3) (by decide +kernel)), by decide +kernel, by decide +kernel⟩
theorem SJ9_max_7cf53 : Jvm.Cond.static yJ9_max_7cf53 ∈ lw_tbl := z_in (List.mem_of_getElem? (i := 54) (by decide +kernel))
def CJ9_min_7cf53_0 : List zEn := [(0, .iload_n 0, 1, 0, 0), (1, .iload_n 1, 2, 0, 0), (2, .if_icmp .gt 7, 5, 0, 9), (5, .iload_n 0, 6, 0, 0), (6, .goto 4, 9, 0, 10), (9, .iload_n 1, 10, 0, 0), (10, .ireturn, 11, 0, 0)]
def MJ9_min_7cf53 : zMI := (yJ9_min_7cf53, cJ9_min_7cf53, 2, (some .int), [(99999, CJ9_min_7cf53_0)], [])
theorem DJ9_min_7cf53_0 : CJ9_min_7cf53_0.all (zchk cJ9_min_7cf53) = true := by decide +kernel
theorem OJ9_min_7cf53 : zMOK MJ9_min_7cf53 := by
  intro q hq e he
  simp only [MJ9_min_7cf53, zFt, List.mem_cons, List.not_mem_nil, or_false] at hq
  rcases hq with rfl
  · exact List.all_eq_true.mp DJ9_min_7cf53_0 e he
theorem KJ9_min_7cf53 : zMK MJ9_min_7cf53 := ⟨OJ9_min_7cf53, by decide +kernel, z_in (List.mem_of_getElem? (i := 52) (by decide +kernel)), z_in (List.mem_of_getElem? (i := 3) (by decide +kernel)), by decide +kernel, by decide +kernel⟩
theorem SJ9_min_7cf53 : Jvm.Cond.static yJ9_min_7cf53 ∈ lw_tbl := z_in (List.mem_of_getElem? (i := 51) (by decide +kernel))
def CJxa1e45_init_da8c8_0 : List zEn := [(0, .aload_n 0, 1, 0, 0), (1, .invokespecial 1, 4, 0, 12), (4, .return_, 5, 0, 0)]
def MJxa1e45_init_da8c8 : zMI := (yJxa1e45_init_da8c8, cJxa1e45_init_da8c8, 1, none, [(99999, CJxa1e45_init_da8c8_0)], [])
theorem DJxa1e45_init_da8c8_0 : CJxa1e45_init_da8c8_0.all (zchk cJxa1e45_init_da8c8) = true := by decide +kernel
theorem OJxa1e45_init_da8c8 : zMOK MJxa1e45_init_da8c8 := by
  intro q hq e he
  simp only [MJxa1e45_init_da8c8, zFt, List.mem_cons, List.not_mem_nil, or_false] at hq
  rcases hq with rfl
  · exact List.all_eq_true.mp DJxa1e45_init_da8c8_0 e he
theorem KJxa1e45_init_da8c8 : zMK MJxa1e45_init_da8c8 := ⟨OJxa1e45_init_da8c8, by decide +kernel, z_in (List.mem_of_getElem? (i := 97) (by decide +kernel)), z_in (List.mem_of_getElem? (i := 5) (by decide +kernel)), by decide +kernel, by decide +kernel⟩
theorem IJxa1e45_init_da8c8 : Jvm.Cond.instanceMethod yJxa1e45_init_da8c8 ∈ lw_tbl := z_in (List.mem_of_getElem? (i := 96) (by decide +kernel))
def CJxc12de_init_da8c8_0 : List zEn := [(0, .aload_n 0, 1, 0, 0), (1, .invokespecial 1, 4, 0, 11), (4, .aload_n 0, 5, 0, 0), (5, .iconst 0, 6, 0, 0), (6, .putfield 7, 9, 0, 16), (9, .return_, 10, 0, 0)]
def MJxc12de_init_da8c8 : zMI := (yJxc12de_init_da8c8, cJxc12de_init_da8c8, 1, none, [(99999, CJxc12de_init_da8c8_0)], [])
theorem DJxc12de_init_da8c8_0 : CJxc12de_init_da8c8_0.all (zchk cJxc12de_init_da8c8) = true := by decide +kernel
theorem OJxc12de_init_da8c8 : zMOK MJxc12de_init_da8c8 := by
  intro q hq e he
  simp only [MJxc12de_init_da8c8, zFt, List.mem_cons, List.not_mem_nil, or_false] at hq
  rcases hq with rfl
  · exact List.all_eq_true.mp DJxc12de_init_da8c8_0 e he
theorem KJxc12de_init_da8c8 : zMK MJxc12de_init_da8c8 := ⟨OJxc12de_init_da8c8, by decide +kernel, z_in (List.mem_of_getElem? (i := 94) (by decide +kernel)), z_in (List.mem_of_getElem? (i := 6) (by decide +kernel)), by decide +kernel, by decide +kernel⟩
theorem IJxc12de_init_da8c8 : Jvm.Cond.instanceMethod yJxc12de_init_da8c8 ∈ lw_tbl := z_in (List.mem_of_getElem? (i := 93) (by decide +kernel))
def CJx4a65c_init_da8c8_0 : List zEn := [(0, .aload_n 0, 1, 0, 0), (1, .invokespecial 1, 4, 0, 10), (4, .aload_n 0, 5, 0, 0), (5, .getstatic 39, 8, 0, 13), (8, .putfield 9, 11, 0, 14), (11, .return_, 12, 0, 0)]
def MJx4a65c_init_da8c8 : zMI := (yJx4a65c_init_da8c8, cJx4a65c_init_da8c8, 1, none, [(99999, CJx4a65c_init_da8c8_0)], [])
theorem DJx4a65c_init_da8c8_0 : CJx4a65c_init_da8c8_0.all (zchk cJx4a65c_init_da8c8) = true := by decide +kernel
theorem OJx4a65c_init_da8c8 : zMOK MJx4a65c_init_da8c8 := by
  intro q hq e he
  simp only [MJx4a65c_init_da8c8, zFt, List.mem_cons, List.not_mem_nil, or_false] at hq
  rcases hq with rfl
  · exact List.all_eq_true.mp DJx4a65c_init_da8c8_0 e he
theorem KJx4a65c_init_da8c8 : zMK MJx4a65c_init_da8c8 := ⟨OJx4a65c_init_da8c8, by decide +kernel, z_in (List.mem_of_getElem? (i := 91) (by decide +kernel)), z_in (List.mem_of_getElem? (i := 7) (by decide +kernel)), by decide +kernel, by decide +kernel⟩
theorem IJx4a65c_init_da8c8 : Jvm.Cond.instanceMethod yJx4a65c_init_da8c8 ∈ lw_tbl := z_in (List.mem_of_getElem? (i := 90) (by decide +kernel))
def CJx4a65c_grow_92f84_0 : List zEn := [(0, .aload_n 0, 1, 0, 0), (1, .getfield 9, 4, 0, 14), (4, .arraylength, 5, 0, 0), (5, .istore_n 2, 6, 0, 0), (6, .iload_n 2, 7, 0, 0), (7, .ifCond .gt 13, 10, 0, 20), (10, .aload_n 0, 11, 0, 0), (11, .getfield 9, 14, 0, 14), (14, .getstatic 39, 17, 0, 13), (17, .if_acmp .eq 28, 20, 0, 45), (20, .iload_n 2, 21, 0, 0), (21, .iload_n 1, 22, 0, 0), (22, .iload_n 2, 23, 0, 0), (23, .isub, 24, 0, 0), (24, .iload_n 2, 25, 0, 0), (25, .iconst 1, 26, 1, 0), (26, .ishr, 27, 0, 0), (27, .invokestatic 73, 30, 0, 57), (30, .istore_n 3, 31, 0, 0), (31, .aload_n 0, 32, 0, 0), (32, .aload_n 0, 33, 0, 0), (33, .getfield 9, 36, 0, 14), (36, .iload_n 3, 37, 0, 0), (37, .invokestatic 66, 40, 0, 60), (40, .dup_x1, 41, 0, 0), (41, .putfield 9, 44, 0, 14), (44, .areturn, 45, 0, 0), (45, .aload_n 0, 46, 0, 0), (46, .bipush 10, 48, 10, 0), (48, .iload_n 1, 49, 0, 0)]
def CJx4a65c_grow_92f84_1 : List zEn := [(49, .invokestatic 79, 52, 0, 65), (52, .anewarray 7, 55, 0, 18), (55, .dup_x1, 56, 0, 0), (56, .putfield 9, 59, 0, 14), (59, .areturn, 60, 0, 0)]
def MJx4a65c_grow_92f84 : zMI := (yJx4a65c_grow_92f84, cJx4a65c_grow_92f84, 4, (some (.array (.object "java/lang/Object"))), [(49, CJx4a65c_grow_92f84_0), (99999, CJx4a65c_grow_92f84_1)], [])
theorem DJx4a65c_grow_92f84_0 : CJx4a65c_grow_92f84_0.all (zchk cJx4a65c_grow_92f84) = true := by decide +kernel
theorem DJx4a65c_grow_92f84_1 : CJx4a65c_grow_92f84_1.all (zchk cJx4a65c_grow_92f84) = true := by decide +kernel
theorem OJx4a65c_grow_92f84 : zMOK MJx4a65c_grow_92f84 := by
  intro q hq e he
  simp only [MJx4a65c_grow_92f84, zFt, List.mem_cons, List.not_mem_nil, or_false] at hq
  rcases hq with rfl | rfl
  · exact List.all_eq_true.mp DJx4a65c_grow_92f84_0 e he
  · exact List.all_eq_true.mp DJx4a65c_grow_92f84_1 e he
theorem KJx4a65c_grow_92f84 : zMK MJx4a65c_grow_92f84 := ⟨OJx4a65c_grow_92f84, by decide +kernel, z_in (List.mem_of_getElem? (i := 381) (by decide +kernel)), z_in (List.mem_of_getElem? (i := 7) (by decide +kernel)), by decide +kernel, by decide +kernel⟩
theorem IJx4a65c_grow_92f84 : Jvm.Cond.instanceMethod yJx4a65c_grow_92f84 ∈ lw_tbl := z_in (List.mem_of_getElem? (i := 380) (by decide +kernel))
theorem VJx4a65c_grow_92f84 : Jvm.Cond.selects "java/util/ArrayList" yJx4a65c_grow_92f84 yJx4a65c_grow_92f84 ∈ lw_tbl := List.mem_append_left _ (List.mem_of_getElem? (i := 5) (by decide +kernel))
def CJx4a65c_grow_d5877_0 : List zEn := [(0, .aload_n 0, 1, 0, 0), (1, .aload_n 0, 2, 0, 0), (2, .getfield 48, 5, 0, 15), (5, .iconst 1, 6, 1, 0), (6, .iadd, 7, 0, 0), (7, .invokevirtual 69, 10, 0, 56), (10, .areturn, 11, 0, 0)]
def MJx4a65c_grow_d5877 : zMI := (yJx4a65c_grow_d5877, cJx4a65c_grow_d5877, 1, (some (.array (.object "java/lang/Object"))), [(99999, CJx4a65c_grow_d5877_0)], [])
theorem DJx4a65c_grow_d5877_0 : CJx4a65c_grow_d5877_0.all (zchk cJx4a65c_grow_d5877) = true := by decide +kernel
theorem OJx4a65c_grow_d5877 : zMOK MJx4a65c_grow_d5877 := by
  intro q hq e he
  simp only [MJx4a65c_grow_d5877, zFt, List.mem_cons, List.not_mem_nil, or_false] at hq
  rcases hq with rfl
  · exact List.all_eq_true.mp DJx4a65c_grow_d5877_0 e he
theorem KJx4a65c_grow_d5877 : zMK MJx4a65c_grow_d5877 := ⟨OJx4a65c_grow_d5877, by decide +kernel, z_in (List.mem_of_getElem? (i := 377) (by decide +kernel)), z_in (List.mem_of_getElem? (i := 7) (by decide +kernel)), by decide +kernel, by decide +kernel⟩
theorem IJx4a65c_grow_d5877 : Jvm.Cond.instanceMethod yJx4a65c_grow_d5877 ∈ lw_tbl := z_in (List.mem_of_getElem? (i := 376) (by decide +kernel))
theorem VJx4a65c_grow_d5877 : Jvm.Cond.selects "java/util/ArrayList" yJx4a65c_grow_d5877 yJx4a65c_grow_d5877 ∈ lw_tbl := List.mem_append_left _ (List.mem_of_getElem? (i := 4) (by decide +kernel))
def CJx4a65c_size_8abf5_0 : List zEn := [(0, .aload_n 0, 1, 0, 0), (1, .getfield 48, 4, 0, 15), (4, .ireturn, 5, 0, 0)]
def MJx4a65c_size_8abf5 : zMI := (yJx4a65c_size_8abf5, cJx4a65c_size_8abf5, 1, (some .int), [(99999, CJx4a65c_size_8abf5_0)], [])
theorem DJx4a65c_size_8abf5_0 : CJx4a65c_size_8abf5_0.all (zchk cJx4a65c_size_8abf5) = true := by decide +kernel
theorem OJx4a65c_size_8abf5 : zMOK MJx4a65c_size_8abf5 := by
  intro q hq e he
  simp only [MJx4a65c_size_8abf5, zFt, List.mem_cons, List.not_mem_nil, or_false] at hq
  rcases hq with rfl
  · exact List.all_eq_true.mp DJx4a65c_size_8abf5_0 e he
theorem KJx4a65c_size_8abf5 : zMK MJx4a65c_size_8abf5 := ⟨OJx4a65c_size_8abf5, by decide +kernel, z_in (List.mem_of_getElem? (i := 266) (by decide +kernel)), z_in (List.mem_of_getElem? (i := 7) (by decide +kernel)), by decide +kernel, by decide +kernel⟩
theorem IJx4a65c_size_8abf5 : Jvm.Cond.instanceMethod yJx4a65c_size_8abf5 ∈ lw_tbl := z_in (List.mem_of_getElem? (i := 264) (by decide +kernel))
theorem VJx4a65c_size_8abf5 : Jvm.Cond.selects "java/util/ArrayList" yJx4a65c_size_8abf5 yJx4a65c_size_8abf5 ∈ lw_tbl := z_in (List.mem_of_getElem? (i := 265) (by decide +kernel))
def CJx4a65c_isEmpty_aae02_0 : List zEn := [(0, .aload_n 0, 1, 0, 0), (1, .getfield 48, 4, 0, 15), (4, .ifCond .ne 7, 7, 0, 11), (7, .iconst 1, 8, 1, 0), (8, .goto 4, 11, 0, 12), (11, .iconst 0, 12, 0, 0), (12, .ireturn, 13, 0, 0)]
def MJx4a65c_isEmpty_aae02 : zMI := (yJx4a65c_isEmpty_aae02, cJx4a65c_isEmpty_aae02, 1, (some .boolean), [(99999, CJx4a65c_isEmpty_aae02_0)], [])
theorem DJx4a65c_isEmpty_aae02_0 : CJx4a65c_isEmpty_aae02_0.all (zchk cJx4a65c_isEmpty_aae02) = true := by decide +kernel
theorem OJx4a65c_isEmpty_aae02 : zMOK MJx4a65c_isEmpty_aae02 := by
  intro q hq e he
  simp only [MJx4a65c_isEmpty_aae02, zFt, List.mem_cons, List.not_mem_nil, or_false] at hq
  rcases hq with rfl
  · exact List.all_eq_true.mp DJx4a65c_isEmpty_aae02_0 e he
theorem KJx4a65c_isEmpty_aae02 : zMK MJx4a65c_isEmpty_aae02 := ⟨OJx4a65c_isEmpty_aae02, by decide +kernel, z_in (List.mem_of_getElem? (i := 860) (by decide +kernel)), z_in (List.mem_of_getElem? (i := 7) (by decide +kernel)), by decide +kernel, by decide +kernel⟩
theorem IJx4a65c_isEmpty_aae02 : Jvm.Cond.instanceMethod yJx4a65c_isEmpty_aae02 ∈ lw_tbl := z_in (List.mem_of_getElem? (i := 858) (by decide +kernel))
theorem VJx4a65c_isEmpty_aae02 : Jvm.Cond.selects "java/util/ArrayList" yJx4a65c_isEmpty_aae02 yJx4a65c_isEmpty_aae02 ∈ lw_tbl := z_in (List.mem_of_getElem? (i := 859) (by decide +kernel))
def CJx4a65c_elementData_915e3_0 : List zEn := [(0, .aload_n 0, 1, 0, 0), (1, .getfield 9, 4, 0, 14), (4, .iload_n 1, 5, 0, 0), (5, .aaload, 6, 0, 0), (6, .areturn, 7, 0, 0)]
def MJx4a65c_elementData_915e3 : zMI := (yJx4a65c_elementData_915e3, cJx4a65c_elementData_915e3, 2, (some (.object "java/lang/Object")), [(99999, CJx4a65c_elementData_915e3_0)], [])
theorem DJx4a65c_elementData_915e3_0 : CJx4a65c_elementData_915e3_0.all (zchk cJx4a65c_elementData_915e3) = true := by decide +kernel
theorem OJx4a65c_elementData_915e3 : zMOK MJx4a65c_elementData_915e3 := by
  intro q hq e he
  simp only [MJx4a65c_elementData_915e3, zFt, List.mem_cons, List.not_mem_nil, or_false] at hq
  rcases hq with rfl
  · exact List.all_eq_true.mp DJx4a65c_elementData_915e3_0 e he
theorem KJx4a65c_elementData_915e3 : zMK MJx4a65c_elementData_915e3 := ⟨OJx4a65c_elementData_915e3, by decide +kernel, z_in (List.mem_of_getElem? (i := 286) (by decide +kernel)), z_in (List.mem_of_getElem? (i := 7) (by decide +kernel)), by decide +kernel, by decide +kernel⟩
theorem IJx4a65c_elementData_915e3 : Jvm.Cond.instanceMethod yJx4a65c_elementData_915e3 ∈ lw_tbl := z_in (List.mem_of_getElem? (i := 284) (by decide +kernel))
theorem VJx4a65c_elementData_915e3 : Jvm.Cond.selects "java/util/ArrayList" yJx4a65c_elementData_915e3 yJx4a65c_elementData_915e3 ∈ lw_tbl := z_in (List.mem_of_getElem? (i := 285) (by decide +kernel))
def CJx4a65c_get_915e3_0 : List zEn := [(0, .iload_n 1, 1, 0, 0), (1, .aload_n 0, 2, 0, 0), (2, .getfield 48, 5, 0, 15), (5, .invokestatic 118, 8, 0, 37), (8, .pop, 9, 0, 0), (9, .aload_n 0, 10, 0, 0), (10, .iload_n 1, 11, 0, 0), (11, .invokevirtual 123, 14, 0, 39), (14, .areturn, 15, 0, 0)]
def MJx4a65c_get_915e3 : zMI := (yJx4a65c_get_915e3, cJx4a65c_get_915e3, 2, (some (.object "java/lang/Object")), [(99999, CJx4a65c_get_915e3_0)], [])
theorem DJx4a65c_get_915e3_0 : CJx4a65c_get_915e3_0.all (zchk cJx4a65c_get_915e3) = true := by decide +kernel
theorem OJx4a65c_get_915e3 : zMOK MJx4a65c_get_915e3 := by
  intro q hq e he
  simp only [MJx4a65c_get_915e3, zFt, List.mem_cons, List.not_mem_nil, or_false] at hq
  rcases hq with rfl
  · exact List.all_eq_true.mp DJx4a65c_get_915e3_0 e he
theorem KJx4a65c_get_915e3 : zMK MJx4a65c_get_915e3 := ⟨OJx4a65c_get_915e3, by decide +kernel, z_in (List.mem_of_getElem? (i := 276) (by decide +kernel)), z_in (List.mem_of_getElem? (i := 7) (by decide +kernel)), by decide +kernel, by decide +kernel⟩
theorem IJx4a65c_get_915e3 : Jvm.Cond.instanceMethod yJx4a65c_get_915e3 ∈ lw_tbl := z_in (List.mem_of_getElem? (i := 274) (by decide +kernel))
theorem VJx4a65c_get_915e3 : Jvm.Cond.selects "java/util/ArrayList" yJx4a65c_get_915e3 yJx4a65c_get_915e3 ∈ lw_tbl := z_in (List.mem_of_getElem? (i := 275) (by decide +kernel))
def CJx4a65c_add_72be8_0 : List zEn := [(0, .iload_n 3, 1, 0, 0), (1, .aload_n 2, 2, 0, 0), (2, .arraylength, 3, 0, 0), (3, .if_icmp .ne 8, 6, 0, 11), (6, .aload_n 0, 7, 0, 0), (7, .invokevirtual 129, 10, 0, 55), (10, .astore_n 2, 11, 0, 0), (11, .aload_n 2, 12, 0, 0), (12, .iload_n 3, 13, 0, 0), (13, .aload_n 1, 14, 0, 0), (14, .aastore, 15, 0, 0), (15, .aload_n 0, 16, 0, 0), (16, .iload_n 3, 17, 0, 0), (17, .iconst 1, 18, 1, 0), (18, .iadd, 19, 0, 0), (19, .putfield 48, 22, 0, 15), (22, .return_, 23, 0, 0)]
def MJx4a65c_add_72be8 : zMI := (yJx4a65c_add_72be8, cJx4a65c_add_72be8, 4, none, [(99999, CJx4a65c_add_72be8_0)], [])
theorem DJx4a65c_add_72be8_0 : CJx4a65c_add_72be8_0.all (zchk cJx4a65c_add_72be8) = true := by decide +kernel
theorem OJx4a65c_add_72be8 : zMOK MJx4a65c_add_72be8 := by
  intro q hq e he
  simp only [MJx4a65c_add_72be8, zFt, List.mem_cons, List.not_mem_nil, or_false] at hq
  rcases hq with rfl
  · exact List.all_eq_true.mp DJx4a65c_add_72be8_0 e he
theorem KJx4a65c_add_72be8 : zMK MJx4a65c_add_72be8 := ⟨OJx4a65c_add_72be8, by decide +kernel, z_in (List.mem_of_getElem? (i := 373) (by decide +kernel)), z_in (List.mem_of_getElem? (i := 7) (by decide +kernel)), by decide +kernel, by decide +kernel⟩
theorem IJx4a65c_add_72be8 : Jvm.Cond.instanceMethod yJx4a65c_add_72be8 ∈ lw_tbl := z_in (List.mem_of_getElem? (i := 372) (by decide +kernel))
theorem VJx4a65c_add_72be8 : Jvm.Cond.selects "java/util/ArrayList" yJx4a65c_add_72be8 yJx4a65c_add_72be8 ∈ lw_tbl := List.mem_append_left _ (List.mem_of_getElem? (i := 3) (by decide +kernel))
def CJx4a65c_add_9ea2d_0 : List zEn := [(0, .aload_n 0, 1, 0, 0), (1, .dup, 2, 0, 0), (2, .getfield 63, 5, 0, 17), (5, .iconst 1, 6, 1, 0), (6, .iadd, 7, 0, 0), (7, .putfield 63, 10, 0, 17), (10, .aload_n 0, 11, 0, 0), (11, .aload_n 1, 12, 0, 0), (12, .aload_n 0, 13, 0, 0), (13, .getfield 9, 16, 0, 14), (16, .aload_n 0, 17, 0, 0), (17, .getfield 48, 20, 0, 15), (20, .invokevirtual 131, 23, 0, 54), (23, .iconst 1, 24, 1, 0), (24, .ireturn, 25, 0, 0)]
def MJx4a65c_add_9ea2d : zMI := (yJx4a65c_add_9ea2d, cJx4a65c_add_9ea2d, 2, (some .boolean), [(99999, CJx4a65c_add_9ea2d_0)], [])
theorem DJx4a65c_add_9ea2d_0 : CJx4a65c_add_9ea2d_0.all (zchk cJx4a65c_add_9ea2d) = true := by decide +kernel
theorem OJx4a65c_add_9ea2d : zMOK MJx4a65c_add_9ea2d := by
  intro q hq e he
  simp only [MJx4a65c_add_9ea2d, zFt, List.mem_cons, List.not_mem_nil, or_false] at hq
  rcases hq with rfl
  · exact List.all_eq_true.mp DJx4a65c_add_9ea2d_0 e he
theorem KJx4a65c_add_9ea2d : zMK MJx4a65c_add_9ea2d := ⟨OJx4a65c_add_9ea2d, by decide +kernel, z_in (List.mem_of_getElem? (i := 369) (by decide +kernel)), z_in (List.mem_of_getElem? (i := 7) (by decide +kernel)), by decide +kernel, by decide +kernel⟩
theorem IJx4a65c_add_9ea2d : Jvm.Cond.instanceMethod yJx4a65c_add_9ea2d ∈ lw_tbl := z_in (List.mem_of_getElem? (i := 367) (by decide +kernel))
theorem VJx4a65c_add_9ea2d : Jvm.Cond.selects "java/util/ArrayList" yJx4a65c_add_9ea2d yJx4a65c_add_9ea2d ∈ lw_tbl := z_in (List.mem_of_getElem? (i := 368) (by decide +kernel))
def CJx4a65c_remove_915e3_0 : List zEn := [(0, .iload_n 1, 1, 0, 0), (1, .aload_n 0, 2, 0, 0), (2, .getfield 48, 5, 0, 15), (5, .invokestatic 118, 8, 0, 37), (8, .pop, 9, 0, 0), (9, .aload_n 0, 10, 0, 0), (10, .getfield 9, 13, 0, 14), (13, .astore_n 2, 14, 0, 0), (14, .aload_n 2, 15, 0, 0), (15, .iload_n 1, 16, 0, 0), (16, .aaload, 17, 0, 0), (17, .astore_n 3, 18, 0, 0), (18, .aload_n 0, 19, 0, 0), (19, .aload_n 2, 20, 0, 0), (20, .iload_n 1, 21, 0, 0), (21, .invokevirtual 144, 24, 0, 133), (24, .aload_n 3, 25, 0, 0), (25, .areturn, 26, 0, 0)]
def MJx4a65c_remove_915e3 : zMI := (yJx4a65c_remove_915e3, cJx4a65c_remove_915e3, 4, (some (.object "java/lang/Object")), [(99999, CJx4a65c_remove_915e3_0)], [])
theorem DJx4a65c_remove_915e3_0 : CJx4a65c_remove_915e3_0.all (zchk cJx4a65c_remove_915e3) = true := by decide +kernel
theorem OJx4a65c_remove_915e3 : zMOK MJx4a65c_remove_915e3 := by
  intro q hq e he
  simp only [MJx4a65c_remove_915e3, zFt, List.mem_cons, List.not_mem_nil, or_false] at hq
  rcases hq with rfl
  · exact List.all_eq_true.mp DJx4a65c_remove_915e3_0 e he
theorem KJx4a65c_remove_915e3 : zMK MJx4a65c_remove_915e3 := ⟨OJx4a65c_remove_915e3, by decide +kernel, z_in (List.mem_of_getElem? (i := 773) (by decide +kernel)), z_in (List.mem_of_getElem? (i := 7) (by decide +kernel)), by decide +kernel, by decide +kernel⟩
theorem IJx4a65c_remove_915e3 : Jvm.Cond.instanceMethod yJx4a65c_remove_915e3 ∈ lw_tbl := z_in (List.mem_of_getElem? (i := 771) (by decide +kernel))
theorem VJx4a65c_remove_915e3 : Jvm.Cond.selects "java/util/ArrayList" yJx4a65c_remove_915e3 yJx4a65c_remove_915e3 ∈ lw_tbl := z_in (List.mem_of_getElem? (i := 772) (by decide +kernel))
def CJx4a65c_fastRemove_b59b0_0 : List zEn := [(0, .aload_n 0, 1, 0, 0), (1, .dup, 2, 0, 0), (2, .getfield 63, 5, 0, 17), (5, .iconst 1, 6, 1, 0), (6, .iadd, 7, 0, 0), (7, .putfield 63, 10, 0, 17), (10, .aload_n 0, 11, 0, 0), (11, .getfield 48, 14, 0, 15), (14, .iconst 1, 15, 1, 0), (15, .isub, 16, 0, 0), (16, .dup, 17, 0, 0), (17, .istore_n 3, 18, 0, 0), (18, .iload_n 2, 19, 0, 0), (19, .if_icmp .le 15, 22, 0, 34), (22, .aload_n 1, 23, 0, 0), (23, .iload_n 2, 24, 0, 0), (24, .iconst 1, 25, 1, 0), (25, .iadd, 26, 0, 0), (26, .aload_n 1, 27, 0, 0), (27, .iload_n 2, 28, 0, 0), (28, .iload_n 3, 29, 0, 0), (29, .iload_n 2, 30, 0, 0), (30, .isub, 31, 0, 0), (31, .invokestatic 112, 34, 0, 134), (34, .aload_n 1, 35, 0, 0), (35, .aload_n 0, 36, 0, 0), (36, .iload_n 3, 37, 0, 0), (37, .dup_x1, 38, 0, 0), (38, .putfield 48, 41, 0, 15), (41, .aconst_null, 42, 0, 0)]
def CJx4a65c_fastRemove_b59b0_1 : List zEn := [(42, .aastore, 43, 0, 0), (43, .return_, 44, 0, 0)]
def MJx4a65c_fastRemove_b59b0 : zMI := (yJx4a65c_fastRemove_b59b0, cJx4a65c_fastRemove_b59b0, 4, none, [(42, CJx4a65c_fastRemove_b59b0_0), (99999, CJx4a65c_fastRemove_b59b0_1)], [])
theorem DJx4a65c_fastRemove_b59b0_0 : CJx4a65c_fastRemove_b59b0_0.all (zchk cJx4a65c_fastRemove_b59b0) = true := by decide +kernel
theorem DJx4a65c_fastRemove_b59b0_1 : CJx4a65c_fastRemove_b59b0_1.all (zchk cJx4a65c_fastRemove_b59b0) = true := by decide +kernel
theorem OJx4a65c_fastRemove_b59b0 : zMOK MJx4a65c_fastRemove_b59b0 := by
  intro q hq e he
  simp only [MJx4a65c_fastRemove_b59b0, zFt, List.mem_cons, List.not_mem_nil, or_false] at hq
  rcases hq with rfl | rfl
  · exact List.all_eq_true.mp DJx4a65c_fastRemove_b59b0_0 e he
  · exact List.all_eq_true.mp DJx4a65c_fastRemove_b59b0_1 e he
theorem KJx4a65c_fastRemove_b59b0 : zMK MJx4a65c_fastRemove_b59b0 := ⟨OJx4a65c_fastRemove_b59b0, by decide +kernel, z_in (List.mem_of_getElem? (i := 777) (by decide +kernel)), z_in (List.mem_of_getElem? (i := 7) (by decide +kernel)), by decide +kernel, by decide +kernel⟩
theorem IJx4a65c_fastRemove_b59b0 : Jvm.Cond.instanceMethod yJx4a65c_fastRemove_b59b0 ∈ lw_tbl := z_in (List.mem_of_getElem? (i := 776) (by decide +kernel))
theorem VJx4a65c_fastRemove_b59b0 : Jvm.Cond.selects "java/util/ArrayList" yJx4a65c_fastRemove_b59b0 yJx4a65c_fastRemove_b59b0 ∈ lw_tbl := List.mem_append_left _ (List.mem_of_getElem? (i := 17) (by decide +kernel))
def CJx4a65c_clear_da8c8_0 : List zEn := [(0, .aload_n 0, 1, 0, 0), (1, .dup, 2, 0, 0), (2, .getfield 63, 5, 0, 17), (5, .iconst 1, 6, 1, 0), (6, .iadd, 7, 0, 0), (7, .putfield 63, 10, 0, 17), (10, .aload_n 0, 11, 0, 0), (11, .getfield 9, 14, 0, 14), (14, .astore_n 1, 15, 0, 0), (15, .aload_n 0, 16, 0, 0), (16, .getfield 48, 19, 0, 15), (19, .istore_n 2, 20, 0, 0), (20, .aload_n 0, 21, 0, 0), (21, .iconst 0, 22, 0, 0), (22, .dup_x1, 23, 0, 0), (23, .putfield 48, 26, 0, 15), (26, .istore_n 3, 27, 0, 0), (27, .iload_n 3, 28, 0, 0), (28, .iload_n 2, 29, 0, 0), (29, .if_icmp .ge 13, 32, 0, 42), (32, .aload_n 1, 33, 0, 0), (33, .iload_n 3, 34, 0, 0), (34, .aconst_null, 35, 0, 0), (35, .aastore, 36, 0, 0), (36, .iinc 3 1, 39, 1, 0), (39, .goto (-12), 42, 0, 27), (42, .return_, 43, 0, 0)]
def MJx4a65c_clear_da8c8 : zMI := (yJx4a65c_clear_da8c8, cJx4a65c_clear_da8c8, 4, none, [(99999, CJx4a65c_clear_da8c8_0)], [])
theorem DJx4a65c_clear_da8c8_0 : CJx4a65c_clear_da8c8_0.all (zchk cJx4a65c_clear_da8c8) = true := by decide +kernel
theorem OJx4a65c_clear_da8c8 : zMOK MJx4a65c_clear_da8c8 := by
  intro q hq e he
  simp only [MJx4a65c_clear_da8c8, zFt, List.mem_cons, List.not_mem_nil, or_false] at hq
  rcases hq with rfl
  · exact List.all_eq_true.mp DJx4a65c_clear_da8c8_0 e he
theorem KJx4a65c_clear_da8c8 : zMK MJx4a65c_clear_da8c8 := ⟨OJx4a65c_clear_da8c8, by decide +kernel, z_in (List.mem_of_getElem? (i := 540) (by decide +kernel)), z_in (List.mem_of_getElem? (i := 7) (by decide +kernel)), by decide +kernel, by decide +kernel⟩
theorem IJx4a65c_clear_da8c8 : Jvm.Cond.instanceMethod yJx4a65c_clear_da8c8 ∈ lw_tbl := z_in (List.mem_of_getElem? (i := 538) (by decide +kernel))
theorem VJx4a65c_clear_da8c8 : Jvm.Cond.selects "java/util/ArrayList" yJx4a65c_clear_da8c8 yJx4a65c_clear_da8c8 ∈ lw_tbl := z_in (List.mem_of_getElem? (i := 539) (by decide +kernel))
def CJ7_copyOf_1904c_0 : List zEn := [(0, .aload_n 0, 1, 0, 0), (1, .iload_n 1, 2, 0, 0), (2, .aload_n 0, 3, 0, 0), (3, .invokevirtual 86, 6, 0, 61), (6, .invokestatic 300, 9, 0, 62), (9, .areturn, 10, 0, 0)]
def MJ7_copyOf_1904c : zMI := (yJ7_copyOf_1904c, cJ7_copyOf_1904c, 2, (some (.array (.object "java/lang/Object"))), [(99999, CJ7_copyOf_1904c_0)], [])
theorem DJ7_copyOf_1904c_0 : CJ7_copyOf_1904c_0.all (zchk cJ7_copyOf_1904c) = true := by decide +kernel
theorem OJ7_copyOf_1904c : zMOK MJ7_copyOf_1904c := by
  intro q hq e he
  simp only [MJ7_copyOf_1904c, zFt, List.mem_cons, List.not_mem_nil, or_false] at hq
  rcases hq with rfl
  · exact List.all_eq_true.mp DJ7_copyOf_1904c_0 e he
theorem KJ7_copyOf_1904c : zMK MJ7_copyOf_1904c := ⟨OJ7_copyOf_1904c, by decide +kernel, z_in (List.mem_of_getElem? (i := 392) (by decide +kernel)), z_in (List.mem_of_getElem? (i := 20) (by decide +kernel)), by decide +kernel, by decide +kernel⟩
theorem SJ7_copyOf_1904c : Jvm.Cond.static yJ7_copyOf_1904c ∈ lw_tbl := z_in (List.mem_of_getElem? (i := 391) (by decide +kernel))
def CJ7_copyOf_6403c_0 : List zEn := [(0, .aload_n 2, 1, 0, 0), (1, .ldc 110, 3, 0, 0), (3, .if_acmp .ne 10, 6, 0, 13), (6, .iload_n 1, 7, 0, 0), (7, .anewarray 2, 10, 0, 17), (10, .goto 14, 13, 0, 24), (13, .aload_n 2, 14, 0, 0), (14, .invokevirtual 90, 17, 0, 0), (17, .iload_n 1, 18, 0, 0), (18, .invokestatic 95, 21, 0, 0), (21, .checkcast 110, 24, 0, 16), (24, .astore_n 3, 25, 0, 0), (25, .aload_n 0, 26, 0, 0), (26, .iconst 0, 27, 0, 0), (27, .aload_n 3, 28, 0, 0), (28, .iconst 0, 29, 0, 0), (29, .aload_n 0, 30, 0, 0), (30, .arraylength, 31, 0, 0), (31, .iload_n 1, 32, 0, 0), (32, .invokestatic 304, 35, 0, 63), (35, .invokestatic 150, 38, 0, 64), (38, .aload_n 3, 39, 0, 0), (39, .areturn, 40, 0, 0)]
def MJ7_copyOf_6403c : zMI := (yJ7_copyOf_6403c, cJ7_copyOf_6403c, 4, (some (.array (.object "java/lang/Object"))), [(99999, CJ7_copyOf_6403c_0)], [])
theorem DJ7_copyOf_6403c_0 : CJ7_copyOf_6403c_0.all (zchk cJ7_copyOf_6403c) = true := by decide +kernel
theorem OJ7_copyOf_6403c : zMOK MJ7_copyOf_6403c := by
  intro q hq e he
  simp only [MJ7_copyOf_6403c, zFt, List.mem_cons, List.not_mem_nil, or_false] at hq
  rcases hq with rfl
  · exact List.all_eq_true.mp DJ7_copyOf_6403c_0 e he
theorem KJ7_copyOf_6403c : zMK MJ7_copyOf_6403c := ⟨OJ7_copyOf_6403c, by decide +kernel, z_in (List.mem_of_getElem? (i := 415) (by decide +kernel)), z_in (List.mem_of_getElem? (i := 20) (by decide +kernel)), by decide +kernel, by decide +kernel⟩
theorem SJ7_copyOf_6403c : Jvm.Cond.static yJ7_copyOf_6403c ∈ lw_tbl := z_in (List.mem_of_getElem? (i := 414) (by decide +kernel))
def CJ15_checkIndex_7cf53_0 : List zEn := [(0, .iload_n 0, 1, 0, 0), (1, .iload_n 1, 2, 0, 0), (2, .aconst_null, 3, 0, 0), (3, .invokestatic 105, 6, 0, 38), (6, .ireturn, 7, 0, 0)]
def MJ15_checkIndex_7cf53 : zMI := (yJ15_checkIndex_7cf53, cJ15_checkIndex_7cf53, 2, (some .int), [(99999, CJ15_checkIndex_7cf53_0)], [])
theorem DJ15_checkIndex_7cf53_0 : CJ15_checkIndex_7cf53_0.all (zchk cJ15_checkIndex_7cf53) = true := by decide +kernel
theorem OJ15_checkIndex_7cf53 : zMOK MJ15_checkIndex_7cf53 := by
  intro q hq e he
  simp only [MJ15_checkIndex_7cf53, zFt, List.mem_cons, List.not_mem_nil, or_false] at hq
  rcases hq with rfl
  · exact List.all_eq_true.mp DJ15_checkIndex_7cf53_0 e he
theorem KJ15_checkIndex_7cf53 : zMK MJ15_checkIndex_7cf53 := ⟨OJ15_checkIndex_7cf53, by decide +kernel, z_in (List.mem_of_getElem? (i := 279) (by decide +kernel)), z_in (List.mem_of_getElem? (i := 16) (by decide +kernel)), by decide +kernel, by decide +kernel⟩
theorem SJ15_checkIndex_7cf53 : Jvm.Cond.static yJ15_checkIndex_7cf53 ∈ lw_tbl := z_in (List.mem_of_getElem? (i := 278) (by decide +kernel))
def CJ8_newLength_cabcc_0 : List zEn := [(0, .iload_n 0, 1, 0, 0), (1, .iload_n 1, 2, 0, 0), (2, .iload_n 2, 3, 0, 0), (3, .invokestatic 194, 6, 0, 58), (6, .iadd, 7, 0, 0), (7, .istore_n 3, 8, 0, 0), (8, .iconst 0, 9, 0, 0), (9, .iload_n 3, 10, 0, 0), (10, .if_icmp .ge 11, 13, 0, 21), (13, .iload_n 3, 14, 0, 0), (14, .ldc 200, 16, 0, 0), (16, .if_icmp .gt 5, 19, 0, 21), (19, .iload_n 3, 20, 0, 0), (20, .ireturn, 21, 0, 0), (21, .iload_n 0, 22, 0, 0), (22, .iload_n 1, 23, 0, 0), (23, .invokestatic 201, 26, 0, 59), (26, .ireturn, 27, 0, 0)]
def MJ8_newLength_cabcc : zMI := (yJ8_newLength_cabcc, cJ8_newLength_cabcc, 4, (some .int), [(99999, CJ8_newLength_cabcc_0)], [])
theorem DJ8_newLength_cabcc_0 : CJ8_newLength_cabcc_0.all (zchk cJ8_newLength_cabcc) = true := by decide +kernel
theorem OJ8_newLength_cabcc : zMOK MJ8_newLength_cabcc := by
  intro q hq e he
  simp only [MJ8_newLength_cabcc, zFt, List.mem_cons, List.not_mem_nil, or_false] at hq
  rcases hq with rfl
  · exact List.all_eq_true.mp DJ8_newLength_cabcc_0 e he
theorem KJ8_newLength_cabcc : zMK MJ8_newLength_cabcc := ⟨OJ8_newLength_cabcc, by decide +kernel, z_in (List.mem_of_getElem? (i := 384) (by decide +kernel)), z_in (List.mem_of_getElem? (i := 19) (by decide +kernel)), by decide +kernel, by decide +kernel⟩
theorem SJ8_newLength_cabcc : Jvm.Cond.static yJ8_newLength_cabcc ∈ lw_tbl := z_in (List.mem_of_getElem? (i := 383) (by decide +kernel))
def CJ8_hugeLength_7cf53_0 : List zEn := [(0, .iload_n 0, 1, 0, 0), (1, .iload_n 1, 2, 0, 0), (2, .iadd, 3, 0, 0), (3, .istore_n 2, 4, 0, 0), (4, .iload_n 2, 5, 0, 0), (5, .ifCond .ge 44, 8, 0, 49), (8, .new 204, 11, 0, 0), (11, .dup, 12, 0, 0), (12, .new 89, 15, 0, 0), (15, .dup, 16, 0, 0), (16, .invokespecial 91, 19, 0, 0), (19, .ldc 206, 21, 0, 0), (21, .invokevirtual 94, 24, 0, 0), (24, .iload_n 0, 25, 0, 0), (25, .invokevirtual 98, 28, 0, 0), (28, .ldc 208, 30, 0, 0), (30, .invokevirtual 94, 33, 0, 0), (33, .iload_n 1, 34, 0, 0), (34, .invokevirtual 98, 37, 0, 0), (37, .ldc 210, 39, 0, 0), (39, .invokevirtual 94, 42, 0, 0), (42, .invokevirtual 101, 45, 0, 0), (45, .invokespecial 212, 48, 0, 0), (48, .athrow, 49, 0, 0), (49, .iload_n 2, 50, 0, 0), (50, .ldc 200, 52, 0, 0), (52, .if_icmp .gt 6, 55, 0, 58), (55, .ldc 200, 57, 0, 0), (57, .ireturn, 58, 0, 0), (58, .iload_n 2, 59, 0, 0)]
def CJ8_hugeLength_7cf53_1 : List zEn := [(59, .ireturn, 60, 0, 0)]
def MJ8_hugeLength_7cf53 : zMI := (yJ8_hugeLength_7cf53, cJ8_hugeLength_7cf53, 3, (some .int), [(59, CJ8_hugeLength_7cf53_0), (99999, CJ8_hugeLength_7cf53_1)], [])
theorem DJ8_hugeLength_7cf53_0 : CJ8_hugeLength_7cf53_0.all (zchk cJ8_hugeLength_7cf53) = true := by decide +kernel
theorem DJ8_hugeLength_7cf53_1 : CJ8_hugeLength_7cf53_1.all (zchk cJ8_hugeLength_7cf53) = true := by decide +kernel
theorem OJ8_hugeLength_7cf53 : zMOK MJ8_hugeLength_7cf53 := by
  intro q hq e he
  simp only [MJ8_hugeLength_7cf53, zFt, List.mem_cons, List.not_mem_nil, or_false] at hq
  rcases hq with rfl | rfl
  · exact List.all_eq_true.mp DJ8_hugeLength_7cf53_0 e he
  · exact List.all_eq_true.mp DJ8_hugeLength_7cf53_1 e he
theorem KJ8_hugeLength_7cf53 : zMK MJ8_hugeLength_7cf53 := ⟨OJ8_hugeLength_7cf53, by decide +kernel, z_in (List.mem_of_getElem? (i := 389) (by decide +kernel)), z_in (List.mem_of_getElem? (i := 19) (by decide +kernel)), by decide +kernel, by decide +kernel⟩
theorem SJ8_hugeLength_7cf53 : Jvm.Cond.static yJ8_hugeLength_7cf53 ∈ lw_tbl := z_in (List.mem_of_getElem? (i := 388) (by decide +kernel))
def CJ3_checkIndex_8e157_0 : List zEn := [(0, .iload_n 0, 1, 0, 0), (1, .ifCond .lt 8, 4, 0, 9), (4, .iload_n 0, 5, 0, 0), (5, .iload_n 1, 6, 0, 0), (6, .if_icmp .lt 10, 9, 0, 16), (9, .aload_n 2, 10, 0, 0), (10, .iload_n 0, 11, 0, 0), (11, .iload_n 1, 12, 0, 0), (12, .invokestatic 95, 15, 0, 0), (15, .athrow, 16, 0, 0), (16, .iload_n 0, 17, 0, 0), (17, .ireturn, 18, 0, 0)]
def MJ3_checkIndex_8e157 : zMI := (yJ3_checkIndex_8e157, cJ3_checkIndex_8e157, 3, (some .int), [(99999, CJ3_checkIndex_8e157_0)], [])
theorem DJ3_checkIndex_8e157_0 : CJ3_checkIndex_8e157_0.all (zchk cJ3_checkIndex_8e157) = true := by decide +kernel
theorem OJ3_checkIndex_8e157 : zMOK MJ3_checkIndex_8e157 := by
  intro q hq e he
  simp only [MJ3_checkIndex_8e157, zFt, List.mem_cons, List.not_mem_nil, or_false] at hq
  rcases hq with rfl
  · exact List.all_eq_true.mp DJ3_checkIndex_8e157_0 e he
theorem KJ3_checkIndex_8e157 : zMK MJ3_checkIndex_8e157 := ⟨OJ3_checkIndex_8e157, by decide +kernel, z_in (List.mem_of_getElem? (i := 282) (by decide +kernel)), z_in (List.mem_of_getElem? (i := 17) (by decide +kernel)), by decide +kernel, by decide +kernel⟩
theorem SJ3_checkIndex_8e157 : Jvm.Cond.static yJ3_checkIndex_8e157 ∈ lw_tbl := z_in (List.mem_of_getElem? (i := 281) (by decide +kernel))
