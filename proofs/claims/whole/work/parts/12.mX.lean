def CX0_init_0 : List zEn := [(0, .aload_n 0, 1, 0, 0), (1, .iconst 3, 2, 3, 0), (2, .iload_n 1, 3, 0, 0), (3, .iload 5, 5, 0, 0), (5, .iload_n 3, 6, 0, 0), (6, .invokestatic 3, 9, 0, 150), (9, .iadd, 10, 0, 0), (10, .iload_n 3, 11, 0, 0), (11, .iload 4, 13, 0, 0), (13, .invokespecial 9, 16, 0, 161), (16, .aload_n 0, 17, 0, 0), (17, .iconst 0, 18, 0, 0), (18, .putfield 15, 21, 0, 117), (21, .aload_n 0, 22, 0, 0), (22, .iload_n 2, 23, 0, 0), (23, .putfield 19, 26, 0, 111), (26, .aload_n 0, 27, 0, 0), (27, .iload 5, 29, 0, 0), (29, .putfield 22, 32, 0, 113), (32, .aload_n 0, 33, 0, 0), (33, .iload_n 3, 34, 0, 0), (34, .invokestatic 25, 37, 0, 162), (37, .putfield 28, 40, 0, 115), (40, .return_, 41, 0, 0)]
def MX0_init : zMI := (yX0_init, cX0_init, 6, none, [(99999, CX0_init_0)], [])
theorem DX0_init_0 : CX0_init_0.all (zchk cX0_init) = true := by decide +kernel
theorem OX0_init : zMOK MX0_init := by
  intro q hq e he
  simp only [MX0_init, zFt, List.mem_cons, List.not_mem_nil, or_false] at hq
  rcases hq with rfl
  · exact List.all_eq_true.mp DX0_init_0 e he
theorem KX0_init : zMK MX0_init := ⟨OX0_init, by decide +kernel, z_in (List.mem_of_getElem? (i := 872) (by decide +kernel)), z_in (List.mem_of_getElem? (i := 26) (by decide +kernel)), by decide +kernel, by decide +kernel⟩
theorem IX0_init : Jvm.Cond.instanceMethod yX0_init ∈ lw_tbl := z_in (List.mem_of_getElem? (i := 871) (by decide +kernel))
def CX0_redzone_0 : List zEn := [(0, .iload_n 0, 1, 0, 0), (1, .bipush 64, 3, 64, 0), (3, .if_icmp .gt 6, 6, 0, 9), (6, .bipush 16, 8, 16, 0), (8, .ireturn, 9, 0, 0), (9, .iload_n 0, 10, 0, 0), (10, .sipush 256, 13, 256, 0), (13, .if_icmp .gt 6, 16, 0, 19), (16, .bipush 32, 18, 32, 0), (18, .ireturn, 19, 0, 0), (19, .iload_n 0, 20, 0, 0), (20, .sipush 1024, 23, 1024, 0), (23, .if_icmp .gt 8, 26, 0, 31), (26, .bipush 64, 28, 64, 0), (28, .goto 6, 31, 0, 34), (31, .sipush 128, 34, 128, 0), (34, .ireturn, 35, 0, 0)]
def MX0_redzone : zMI := (yX0_redzone, cX0_redzone, 1, (some .int), [(99999, CX0_redzone_0)], [])
theorem DX0_redzone_0 : CX0_redzone_0.all (zchk cX0_redzone) = true := by decide +kernel
theorem OX0_redzone : zMOK MX0_redzone := by
  intro q hq e he
  simp only [MX0_redzone, zFt, List.mem_cons, List.not_mem_nil, or_false] at hq
  rcases hq with rfl
  · exact List.all_eq_true.mp DX0_redzone_0 e he
theorem KX0_redzone : zMK MX0_redzone := ⟨OX0_redzone, by decide +kernel, z_in (List.mem_of_getElem? (i := 843) (by decide +kernel)), z_in (List.mem_of_getElem? (i := 26) (by decide +kernel)), by decide +kernel, by decide +kernel⟩
theorem SX0_redzone : Jvm.Cond.static yX0_redzone ∈ lw_tbl := z_in (List.mem_of_getElem? (i := 842) (by decide +kernel))
def CX0_chunkBytesFor_0 : List zEn := [(0, .iload_n 0, 1, 0, 0), (1, .invokestatic 3, 4, 0, 150), (4, .iload_n 0, 5, 0, 0), (5, .bipush 16, 7, 16, 0), (7, .invokestatic 31, 10, 0, 6), (10, .iadd, 11, 0, 0), (11, .bipush 16, 13, 16, 0), (13, .iadd, 14, 0, 0), (14, .ireturn, 15, 0, 0)]
def MX0_chunkBytesFor : zMI := (yX0_chunkBytesFor, cX0_chunkBytesFor, 1, (some .int), [(99999, CX0_chunkBytesFor_0)], [])
theorem DX0_chunkBytesFor_0 : CX0_chunkBytesFor_0.all (zchk cX0_chunkBytesFor) = true := by decide +kernel
theorem OX0_chunkBytesFor : zMOK MX0_chunkBytesFor := by
  intro q hq e he
  simp only [MX0_chunkBytesFor, zFt, List.mem_cons, List.not_mem_nil, or_false] at hq
  rcases hq with rfl
  · exact List.all_eq_true.mp DX0_chunkBytesFor_0 e he
theorem KX0_chunkBytesFor : zMK MX0_chunkBytesFor := ⟨OX0_chunkBytesFor, by decide +kernel, z_in (List.mem_of_getElem? (i := 840) (by decide +kernel)), z_in (List.mem_of_getElem? (i := 26) (by decide +kernel)), by decide +kernel, by decide +kernel⟩
theorem SX0_chunkBytesFor : Jvm.Cond.static yX0_chunkBytesFor ∈ lw_tbl := z_in (List.mem_of_getElem? (i := 839) (by decide +kernel))
def CX0_isLost_0 : List zEn := [(0, .aload_n 0, 1, 0, 0), (1, .getfield 15, 4, 0, 117), (4, .ifCond .ne 14, 7, 0, 18), (7, .aload_n 0, 8, 0, 0), (8, .getfield 35, 11, 0, 120), (11, .ifCond .ne 7, 14, 0, 18), (14, .iconst 1, 15, 1, 0), (15, .goto 4, 18, 0, 19), (18, .iconst 0, 19, 0, 0), (19, .ireturn, 20, 0, 0)]
def MX0_isLost : zMI := (yX0_isLost, cX0_isLost, 1, (some .boolean), [(99999, CX0_isLost_0)], [])
theorem DX0_isLost_0 : CX0_isLost_0.all (zchk cX0_isLost) = true := by decide +kernel
theorem OX0_isLost : zMOK MX0_isLost := by
  intro q hq e he
  simp only [MX0_isLost, zFt, List.mem_cons, List.not_mem_nil, or_false] at hq
  rcases hq with rfl
  · exact List.all_eq_true.mp DX0_isLost_0 e he
theorem KX0_isLost : zMK MX0_isLost := ⟨OX0_isLost, by decide +kernel, z_in (List.mem_of_getElem? (i := 583) (by decide +kernel)), z_in (List.mem_of_getElem? (i := 26) (by decide +kernel)), by decide +kernel, by decide +kernel⟩
theorem IX0_isLost : Jvm.Cond.instanceMethod yX0_isLost ∈ lw_tbl := z_in (List.mem_of_getElem? (i := 581) (by decide +kernel))
theorem VX0_isLost : Jvm.Cond.selects "ShadowWard$Block" yX0_isLost yX0_isLost ∈ lw_tbl := z_in (List.mem_of_getElem? (i := 582) (by decide +kernel))
def CX0_answer_0 : List zEn := [(0, .iload_n 1, 1, 0, 0), (1, .tableswitch 78 0 6 #[43, 48, 53, 58, 63, 68, 73], 44, 0, 0), (44, .aload_n 0, 45, 0, 0), (45, .getfield 39, 48, 0, 79), (48, .ireturn, 49, 0, 0), (49, .aload_n 0, 50, 0, 0), (50, .getfield 42, 53, 0, 86), (53, .ireturn, 54, 0, 0), (54, .aload_n 0, 55, 0, 0), (55, .getfield 19, 58, 0, 111), (58, .ireturn, 59, 0, 0), (59, .aload_n 0, 60, 0, 0), (60, .getfield 15, 63, 0, 117), (63, .ireturn, 64, 0, 0), (64, .aload_n 0, 65, 0, 0), (65, .getfield 22, 68, 0, 113), (68, .ireturn, 69, 0, 0), (69, .aload_n 0, 70, 0, 0), (70, .getfield 28, 73, 0, 115), (73, .ireturn, 74, 0, 0), (74, .aload_n 0, 75, 0, 0), (75, .getfield 45, 78, 0, 96), (78, .ireturn, 79, 0, 0), (79, .aload_n 0, 80, 0, 0), (80, .getfield 48, 83, 0, 98), (83, .ireturn, 84, 0, 0)]
def MX0_answer : zMI := (yX0_answer, cX0_answer, 2, (some .int), [(99999, CX0_answer_0)], [])
theorem DX0_answer_0 : CX0_answer_0.all (zchk cX0_answer) = true := by decide +kernel
theorem OX0_answer : zMOK MX0_answer := by
  intro q hq e he
  simp only [MX0_answer, zFt, List.mem_cons, List.not_mem_nil, or_false] at hq
  rcases hq with rfl
  · exact List.all_eq_true.mp DX0_answer_0 e he
theorem KX0_answer : zMK MX0_answer := ⟨OX0_answer, by decide +kernel, z_in (List.mem_of_getElem? (i := 1020) (by decide +kernel)), z_in (List.mem_of_getElem? (i := 26) (by decide +kernel)), by decide +kernel, by decide +kernel⟩
theorem IX0_answer : Jvm.Cond.instanceMethod yX0_answer ∈ lw_tbl := z_in (List.mem_of_getElem? (i := 1018) (by decide +kernel))
theorem VX0_answer : Jvm.Cond.selects "ShadowWard$Block" yX0_answer yX0_answer ∈ lw_tbl := z_in (List.mem_of_getElem? (i := 1019) (by decide +kernel))
def CX1_init_0 : List zEn := [(0, .aload_n 0, 1, 0, 0), (1, .invokespecial 1, 4, 0, 117), (4, .aload_n 0, 5, 0, 0), (5, .new 7, 8, 0, 25), (8, .dup, 9, 0, 0), (9, .invokespecial 9, 12, 0, 118), (12, .putfield 10, 15, 0, 104), (15, .aload_n 0, 16, 0, 0), (16, .iload_n 1, 17, 0, 0), (17, .putfield 16, 20, 0, 100), (20, .aload_n 0, 21, 0, 0), (21, .iload_n 2, 22, 0, 0), (22, .putfield 20, 25, 0, 102), (25, .return_, 26, 0, 0)]
def MX1_init : zMI := (yX1_init, cX1_init, 3, none, [(99999, CX1_init_0)], [])
theorem DX1_init_0 : CX1_init_0.all (zchk cX1_init) = true := by decide +kernel
theorem OX1_init : zMOK MX1_init := by
  intro q hq e he
  simp only [MX1_init, zFt, List.mem_cons, List.not_mem_nil, or_false] at hq
  rcases hq with rfl
  · exact List.all_eq_true.mp DX1_init_0 e he
theorem KX1_init : zMK MX1_init := ⟨OX1_init, by decide +kernel, z_in (List.mem_of_getElem? (i := 692) (by decide +kernel)), z_in (List.mem_of_getElem? (i := 22) (by decide +kernel)), by decide +kernel, by decide +kernel⟩
theorem IX1_init : Jvm.Cond.instanceMethod yX1_init ∈ lw_tbl := z_in (List.mem_of_getElem? (i := 691) (by decide +kernel))
def CX2_init_0 : List zEn := [(0, .aload_n 0, 1, 0, 0), (1, .invokespecial 3, 4, 0, 14), (4, .aload_n 0, 5, 0, 0), (5, .new 9, 8, 0, 5), (8, .dup, 9, 0, 0), (9, .invokespecial 11, 12, 0, 15), (12, .putfield 12, 15, 0, 23), (15, .aload_n 0, 16, 0, 0), (16, .aload_n 1, 17, 0, 0), (17, .putfield 18, 20, 0, 22), (20, .return_, 21, 0, 0)]
def MX2_init : zMI := (yX2_init, cX2_init, 2, none, [(99999, CX2_init_0)], [])
theorem DX2_init_0 : CX2_init_0.all (zchk cX2_init) = true := by decide +kernel
theorem OX2_init : zMOK MX2_init := by
  intro q hq e he
  simp only [MX2_init, zFt, List.mem_cons, List.not_mem_nil, or_false] at hq
  rcases hq with rfl
  · exact List.all_eq_true.mp DX2_init_0 e he
theorem KX2_init : zMK MX2_init := ⟨OX2_init, by decide +kernel, z_in (List.mem_of_getElem? (i := 126) (by decide +kernel)), z_in (List.mem_of_getElem? (i := 8) (by decide +kernel)), by decide +kernel, by decide +kernel⟩
theorem IX2_init : Jvm.Cond.instanceMethod yX2_init ∈ lw_tbl := z_in (List.mem_of_getElem? (i := 125) (by decide +kernel))
def CX2_count_0 : List zEn := [(0, .aload_n 0, 1, 0, 0), (1, .getfield 12, 4, 0, 23), (4, .invokevirtual 22, 7, 0, 44), (7, .ireturn, 8, 0, 0)]
def MX2_count : zMI := (yX2_count, cX2_count, 1, (some .int), [(99999, CX2_count_0)], [])
theorem DX2_count_0 : CX2_count_0.all (zchk cX2_count) = true := by decide +kernel
theorem OX2_count : zMOK MX2_count := by
  intro q hq e he
  simp only [MX2_count, zFt, List.mem_cons, List.not_mem_nil, or_false] at hq
  rcases hq with rfl
  · exact List.all_eq_true.mp DX2_count_0 e he
theorem KX2_count : zMK MX2_count := ⟨OX2_count, by decide +kernel, z_in (List.mem_of_getElem? (i := 308) (by decide +kernel)), z_in (List.mem_of_getElem? (i := 8) (by decide +kernel)), by decide +kernel, by decide +kernel⟩
theorem IX2_count : Jvm.Cond.instanceMethod yX2_count ∈ lw_tbl := z_in (List.mem_of_getElem? (i := 306) (by decide +kernel))
theorem VX2_count : Jvm.Cond.selects "ShadowWard$Frames" yX2_count yX2_count ∈ lw_tbl := z_in (List.mem_of_getElem? (i := 307) (by decide +kernel))
def CX2_spanOf_0 : List zEn := [(0, .iload_n 0, 1, 0, 0), (1, .ifCond .ne 7, 4, 0, 8), (4, .iconst 0, 5, 0, 0), (5, .goto 12, 8, 0, 17), (8, .iload_n 0, 9, 0, 0), (9, .bipush 32, 11, 32, 0), (11, .invokestatic 26, 14, 0, 5), (14, .bipush 32, 16, 32, 0), (16, .iadd, 17, 0, 0), (17, .ireturn, 18, 0, 0)]
def MX2_spanOf : zMI := (yX2_spanOf, cX2_spanOf, 1, (some .int), [(99999, CX2_spanOf_0)], [])
theorem DX2_spanOf_0 : CX2_spanOf_0.all (zchk cX2_spanOf) = true := by decide +kernel
theorem OX2_spanOf : zMOK MX2_spanOf := by
  intro q hq e he
  simp only [MX2_spanOf, zFt, List.mem_cons, List.not_mem_nil, or_false] at hq
  rcases hq with rfl
  · exact List.all_eq_true.mp DX2_spanOf_0 e he
theorem KX2_spanOf : zMK MX2_spanOf := ⟨OX2_spanOf, by decide +kernel, z_in (List.mem_of_getElem? (i := 687) (by decide +kernel)), z_in (List.mem_of_getElem? (i := 8) (by decide +kernel)), by decide +kernel, by decide +kernel⟩
theorem SX2_spanOf : Jvm.Cond.static yX2_spanOf ∈ lw_tbl := z_in (List.mem_of_getElem? (i := 686) (by decide +kernel))
def CX2_push_0 : List zEn := [(0, .bipush 32, 2, 32, 0), (2, .iload_n 1, 3, 0, 0), (3, .invokestatic 30, 6, 0, 115), (6, .iadd, 7, 0, 0), (7, .iload_n 2, 8, 0, 0), (8, .invokestatic 30, 11, 0, 115), (11, .iadd, 12, 0, 0), (12, .iload_n 3, 13, 0, 0), (13, .invokestatic 30, 16, 0, 115), (16, .iadd, 17, 0, 0), (17, .iload 4, 19, 0, 0), (19, .invokestatic 30, 22, 0, 115), (22, .iadd, 23, 0, 0), (23, .istore 5, 25, 0, 0), (25, .aload_n 0, 26, 0, 0), (26, .invokevirtual 34, 29, 0, 43), (29, .ifCond .ne 13, 32, 0, 42), (32, .aload_n 0, 33, 0, 0), (33, .getfield 18, 36, 0, 22), (36, .getfield 37, 39, 0, 9), (39, .goto 22, 42, 0, 61), (42, .aload_n 0, 43, 0, 0), (43, .getfield 12, 46, 0, 23), (46, .aload_n 0, 47, 0, 0), (47, .invokevirtual 34, 50, 0, 43), (50, .iconst 1, 51, 1, 0), (51, .isub, 52, 0, 0), (52, .invokevirtual 43, 55, 0, 45), (55, .checkcast 47, 58, 0, 13), (58, .getfield 49, 61, 0, 101)]
def CX2_push_1 : List zEn := [(61, .istore 6, 63, 0, 0), (63, .iload 6, 65, 0, 0), (65, .iload 5, 67, 0, 0), (67, .isub, 68, 0, 0), (68, .istore 7, 70, 0, 0), (70, .iload 7, 72, 0, 0), (72, .aload_n 0, 73, 0, 0), (73, .getfield 18, 76, 0, 22), (76, .getfield 52, 79, 0, 5), (79, .if_icmp .ge 5, 82, 0, 84), (82, .iconst (-1), 83, (-1), 0), (83, .ireturn, 84, 0, 0), (84, .new 47, 87, 0, 13), (87, .dup, 88, 0, 0), (88, .iload 7, 90, 0, 0), (90, .iload 5, 92, 0, 0), (92, .invokespecial 55, 95, 0, 116), (95, .astore 8, 97, 0, 0), (97, .iload 7, 99, 0, 0), (99, .bipush 32, 101, 32, 0), (101, .iadd, 102, 0, 0), (102, .istore 9, 104, 0, 0), (104, .aload_n 0, 105, 0, 0), (105, .aload 8, 107, 0, 0), (107, .iload 9, 109, 0, 0), (109, .iload_n 1, 110, 0, 0), (110, .invokevirtual 58, 113, 0, 119), (113, .istore 9, 115, 0, 0), (115, .aload_n 0, 116, 0, 0), (116, .aload 8, 118, 0, 0)]
def CX2_push_2 : List zEn := [(118, .iload 9, 120, 0, 0), (120, .iload_n 2, 121, 0, 0), (121, .invokevirtual 58, 124, 0, 119), (124, .istore 9, 126, 0, 0), (126, .aload_n 0, 127, 0, 0), (127, .aload 8, 129, 0, 0), (129, .iload 9, 131, 0, 0), (131, .iload_n 3, 132, 0, 0), (132, .invokevirtual 58, 135, 0, 119), (135, .istore 9, 137, 0, 0), (137, .aload_n 0, 138, 0, 0), (138, .aload 8, 140, 0, 0), (140, .iload 9, 142, 0, 0), (142, .iload 4, 144, 0, 0), (144, .invokevirtual 58, 147, 0, 119), (147, .pop, 148, 0, 0), (148, .aload_n 0, 149, 0, 0), (149, .getfield 12, 152, 0, 23), (152, .aload 8, 154, 0, 0), (154, .invokevirtual 62, 157, 0, 122), (157, .pop, 158, 0, 0), (158, .aload_n 0, 159, 0, 0), (159, .aload 8, 161, 0, 0), (161, .invokevirtual 66, 164, 0, 123), (164, .iload 7, 166, 0, 0), (166, .ireturn, 167, 0, 0)]
def MX2_push : zMI := (yX2_push, cX2_push, 10, (some .int), [(61, CX2_push_0), (118, CX2_push_1), (99999, CX2_push_2)], [])
theorem DX2_push_0 : CX2_push_0.all (zchk cX2_push) = true := by decide +kernel
theorem DX2_push_1 : CX2_push_1.all (zchk cX2_push) = true := by decide +kernel
theorem DX2_push_2 : CX2_push_2.all (zchk cX2_push) = true := by decide +kernel
theorem OX2_push : zMOK MX2_push := by
  intro q hq e he
  simp only [MX2_push, zFt, List.mem_cons, List.not_mem_nil, or_false] at hq
  rcases hq with rfl | rfl | rfl
  · exact List.all_eq_true.mp DX2_push_0 e he
  · exact List.all_eq_true.mp DX2_push_1 e he
  · exact List.all_eq_true.mp DX2_push_2 e he
theorem KX2_push : zMK MX2_push := ⟨OX2_push, by decide +kernel, z_in (List.mem_of_getElem? (i := 684) (by decide +kernel)), z_in (List.mem_of_getElem? (i := 8) (by decide +kernel)), by decide +kernel, by decide +kernel⟩
theorem IX2_push : Jvm.Cond.instanceMethod yX2_push ∈ lw_tbl := z_in (List.mem_of_getElem? (i := 682) (by decide +kernel))
theorem VX2_push : Jvm.Cond.selects "ShadowWard$Frames" yX2_push yX2_push ∈ lw_tbl := z_in (List.mem_of_getElem? (i := 683) (by decide +kernel))
def CX2_addVariable_0 : List zEn := [(0, .iload_n 3, 1, 0, 0), (1, .ifCond .le 38, 4, 0, 39), (4, .iconst 4, 5, 4, 0), (5, .aload_n 0, 6, 0, 0), (6, .invokevirtual 34, 9, 0, 43), (9, .imul, 10, 0, 0), (10, .aload_n 1, 11, 0, 0), (11, .getfield 70, 14, 0, 106), (14, .invokevirtual 22, 17, 0, 44), (17, .iadd, 18, 0, 0), (18, .istore 4, 20, 0, 0), (20, .aload_n 1, 21, 0, 0), (21, .getfield 70, 24, 0, 106), (24, .new 73, 27, 0, 26), (27, .dup, 28, 0, 0), (28, .iload 4, 30, 0, 0), (30, .iload_n 2, 31, 0, 0), (31, .iload_n 3, 32, 0, 0), (32, .invokespecial 75, 35, 0, 120), (35, .invokevirtual 62, 38, 0, 122), (38, .pop, 39, 0, 0), (39, .iload_n 2, 40, 0, 0), (40, .iload_n 3, 41, 0, 0), (41, .invokestatic 30, 44, 0, 115), (44, .iadd, 45, 0, 0), (45, .ireturn, 46, 0, 0)]
def MX2_addVariable : zMI := (yX2_addVariable, cX2_addVariable, 5, (some .int), [(99999, CX2_addVariable_0)], [])
theorem DX2_addVariable_0 : CX2_addVariable_0.all (zchk cX2_addVariable) = true := by decide +kernel
theorem OX2_addVariable : zMOK MX2_addVariable := by
  intro q hq e he
  simp only [MX2_addVariable, zFt, List.mem_cons, List.not_mem_nil, or_false] at hq
  rcases hq with rfl
  · exact List.all_eq_true.mp DX2_addVariable_0 e he
theorem KX2_addVariable : zMK MX2_addVariable := ⟨OX2_addVariable, by decide +kernel, z_in (List.mem_of_getElem? (i := 714) (by decide +kernel)), z_in (List.mem_of_getElem? (i := 8) (by decide +kernel)), by decide +kernel, by decide +kernel⟩
theorem IX2_addVariable : Jvm.Cond.instanceMethod yX2_addVariable ∈ lw_tbl := z_in (List.mem_of_getElem? (i := 713) (by decide +kernel))
theorem VX2_addVariable : Jvm.Cond.selects "ShadowWard$Frames" yX2_addVariable yX2_addVariable ∈ lw_tbl := List.mem_append_left _ (List.mem_of_getElem? (i := 15) (by decide +kernel))
def CX2_paintFrame_0 : List zEn := [(0, .aload_n 0, 1, 0, 0), (1, .getfield 18, 4, 0, 22), (4, .aload_n 1, 5, 0, 0), (5, .getfield 49, 8, 0, 101), (8, .bipush 32, 10, 32, 0), (10, .sipush 241, 13, 241, 0), (13, .invokevirtual 78, 16, 0, 124), (16, .aload_n 1, 17, 0, 0), (17, .getfield 70, 20, 0, 106), (20, .invokevirtual 22, 23, 0, 44), (23, .iconst 1, 24, 1, 0), (24, .isub, 25, 0, 0), (25, .istore_n 2, 26, 0, 0), (26, .iconst 0, 27, 0, 0), (27, .istore_n 3, 28, 0, 0), (28, .iload_n 3, 29, 0, 0), (29, .iload_n 2, 30, 0, 0), (30, .if_icmp .gt 77, 33, 0, 107), (33, .aload_n 1, 34, 0, 0), (34, .getfield 70, 37, 0, 106), (37, .iload_n 3, 38, 0, 0), (38, .invokevirtual 43, 41, 0, 45), (41, .checkcast 73, 44, 0, 26), (44, .astore 4, 46, 0, 0), (46, .iload_n 3, 47, 0, 0), (47, .iload_n 2, 48, 0, 0), (48, .if_icmp .ne 9, 51, 0, 57), (51, .sipush 243, 54, 243, 0), (54, .goto 6, 57, 0, 60), (57, .sipush 242, 60, 242, 0)]
def CX2_paintFrame_1 : List zEn := [(60, .istore 5, 62, 0, 0), (62, .aload_n 0, 63, 0, 0), (63, .getfield 18, 66, 0, 22), (66, .aload 4, 68, 0, 0), (68, .getfield 81, 71, 0, 81), (71, .aload 4, 73, 0, 0), (73, .getfield 82, 76, 0, 88), (76, .invokestatic 30, 79, 0, 115), (79, .iload 5, 81, 0, 0), (81, .invokevirtual 78, 84, 0, 124), (84, .aload_n 0, 85, 0, 0), (85, .getfield 18, 88, 0, 22), (88, .aload 4, 90, 0, 0), (90, .getfield 81, 93, 0, 81), (93, .aload 4, 95, 0, 0), (95, .getfield 82, 98, 0, 88), (98, .invokevirtual 84, 101, 0, 125), (101, .iinc 3 1, 104, 1, 0), (104, .goto (-76), 107, 0, 28), (107, .return_, 108, 0, 0)]
def MX2_paintFrame : zMI := (yX2_paintFrame, cX2_paintFrame, 6, none, [(60, CX2_paintFrame_0), (99999, CX2_paintFrame_1)], [])
theorem DX2_paintFrame_0 : CX2_paintFrame_0.all (zchk cX2_paintFrame) = true := by decide +kernel
theorem DX2_paintFrame_1 : CX2_paintFrame_1.all (zchk cX2_paintFrame) = true := by decide +kernel
theorem OX2_paintFrame : zMOK MX2_paintFrame := by
  intro q hq e he
  simp only [MX2_paintFrame, zFt, List.mem_cons, List.not_mem_nil, or_false] at hq
  rcases hq with rfl | rfl
  · exact List.all_eq_true.mp DX2_paintFrame_0 e he
  · exact List.all_eq_true.mp DX2_paintFrame_1 e he
theorem KX2_paintFrame : zMK MX2_paintFrame := ⟨OX2_paintFrame, by decide +kernel, z_in (List.mem_of_getElem? (i := 738) (by decide +kernel)), z_in (List.mem_of_getElem? (i := 8) (by decide +kernel)), by decide +kernel, by decide +kernel⟩
theorem IX2_paintFrame : Jvm.Cond.instanceMethod yX2_paintFrame ∈ lw_tbl := z_in (List.mem_of_getElem? (i := 737) (by decide +kernel))
theorem VX2_paintFrame : Jvm.Cond.selects "ShadowWard$Frames" yX2_paintFrame yX2_paintFrame ∈ lw_tbl := List.mem_append_left _ (List.mem_of_getElem? (i := 16) (by decide +kernel))
def CX2_pop_0 : List zEn := [(0, .aload_n 0, 1, 0, 0), (1, .invokevirtual 34, 4, 0, 43), (4, .ifCond .le 38, 7, 0, 42), (7, .aload_n 0, 8, 0, 0), (8, .getfield 12, 11, 0, 23), (11, .aload_n 0, 12, 0, 0), (12, .invokevirtual 34, 15, 0, 43), (15, .iconst 1, 16, 1, 0), (16, .isub, 17, 0, 0), (17, .invokevirtual 87, 20, 0, 132), (20, .checkcast 47, 23, 0, 13), (23, .astore_n 1, 24, 0, 0), (24, .aload_n 0, 25, 0, 0), (25, .getfield 18, 28, 0, 22), (28, .aload_n 1, 29, 0, 0), (29, .getfield 49, 32, 0, 101), (32, .aload_n 1, 33, 0, 0), (33, .getfield 90, 36, 0, 103), (36, .sipush 245, 39, 245, 0), (39, .invokevirtual 78, 42, 0, 124), (42, .return_, 43, 0, 0)]
def MX2_pop : zMI := (yX2_pop, cX2_pop, 2, none, [(99999, CX2_pop_0)], [])
theorem DX2_pop_0 : CX2_pop_0.all (zchk cX2_pop) = true := by decide +kernel
theorem OX2_pop : zMOK MX2_pop := by
  intro q hq e he
  simp only [MX2_pop, zFt, List.mem_cons, List.not_mem_nil, or_false] at hq
  rcases hq with rfl
  · exact List.all_eq_true.mp DX2_pop_0 e he
theorem KX2_pop : zMK MX2_pop := ⟨OX2_pop, by decide +kernel, z_in (List.mem_of_getElem? (i := 769) (by decide +kernel)), z_in (List.mem_of_getElem? (i := 8) (by decide +kernel)), by decide +kernel, by decide +kernel⟩
theorem IX2_pop : Jvm.Cond.instanceMethod yX2_pop ∈ lw_tbl := z_in (List.mem_of_getElem? (i := 767) (by decide +kernel))
theorem VX2_pop : Jvm.Cond.selects "ShadowWard$Frames" yX2_pop yX2_pop ∈ lw_tbl := z_in (List.mem_of_getElem? (i := 768) (by decide +kernel))
def CX2_setScope_0 : List zEn := [(0, .aload_n 1, 1, 0, 0), (1, .getfield 93, 4, 0, 110), (4, .iload_n 2, 5, 0, 0), (5, .if_icmp .ne 5, 8, 0, 10), (8, .iconst 0, 9, 0, 0), (9, .ireturn, 10, 0, 0), (10, .aload_n 1, 11, 0, 0), (11, .iload_n 2, 12, 0, 0), (12, .putfield 93, 15, 0, 110), (15, .iload_n 2, 16, 0, 0), (16, .ifCond .eq 21, 19, 0, 37), (19, .aload_n 0, 20, 0, 0), (20, .getfield 18, 23, 0, 22), (23, .aload_n 1, 24, 0, 0), (24, .getfield 81, 27, 0, 81), (27, .aload_n 1, 28, 0, 0), (28, .getfield 82, 31, 0, 88), (31, .invokevirtual 84, 34, 0, 125), (34, .goto 21, 37, 0, 55), (37, .aload_n 0, 38, 0, 0), (38, .getfield 18, 41, 0, 22), (41, .aload_n 1, 42, 0, 0), (42, .getfield 81, 45, 0, 81), (45, .aload_n 1, 46, 0, 0), (46, .getfield 82, 49, 0, 88), (49, .sipush 248, 52, 248, 0), (52, .invokevirtual 78, 55, 0, 124), (55, .iconst 1, 56, 1, 0), (56, .ireturn, 57, 0, 0)]
def MX2_setScope : zMI := (yX2_setScope, cX2_setScope, 3, (some .boolean), [(99999, CX2_setScope_0)], [])
theorem DX2_setScope_0 : CX2_setScope_0.all (zchk cX2_setScope) = true := by decide +kernel
theorem OX2_setScope : zMOK MX2_setScope := by
  intro q hq e he
  simp only [MX2_setScope, zFt, List.mem_cons, List.not_mem_nil, or_false] at hq
  rcases hq with rfl
  · exact List.all_eq_true.mp DX2_setScope_0 e he
theorem KX2_setScope : zMK MX2_setScope := ⟨OX2_setScope, by decide +kernel, z_in (List.mem_of_getElem? (i := 816) (by decide +kernel)), z_in (List.mem_of_getElem? (i := 8) (by decide +kernel)), by decide +kernel, by decide +kernel⟩
theorem IX2_setScope : Jvm.Cond.instanceMethod yX2_setScope ∈ lw_tbl := z_in (List.mem_of_getElem? (i := 814) (by decide +kernel))
theorem VX2_setScope : Jvm.Cond.selects "ShadowWard$Frames" yX2_setScope yX2_setScope ∈ lw_tbl := z_in (List.mem_of_getElem? (i := 815) (by decide +kernel))
def CX2_nearestTo_0 : List zEn := [(0, .aconst_null, 1, 0, 0), (1, .astore_n 2, 2, 0, 0), (2, .iconst 0, 3, 0, 0), (3, .istore_n 3, 4, 0, 0), (4, .iload_n 3, 5, 0, 0), (5, .aload_n 0, 6, 0, 0), (6, .invokevirtual 34, 9, 0, 43), (9, .if_icmp .ge 60, 12, 0, 69), (12, .aload_n 0, 13, 0, 0), (13, .getfield 12, 16, 0, 23), (16, .iload_n 3, 17, 0, 0), (17, .invokevirtual 43, 20, 0, 45), (20, .checkcast 47, 23, 0, 13), (23, .getfield 70, 26, 0, 106), (26, .astore 4, 28, 0, 0), (28, .iconst 0, 29, 0, 0), (29, .istore 5, 31, 0, 0), (31, .iload 5, 33, 0, 0), (33, .aload 4, 35, 0, 0), (35, .invokevirtual 22, 38, 0, 44), (38, .if_icmp .ge 25, 41, 0, 63), (41, .aload_n 2, 42, 0, 0), (42, .aload 4, 44, 0, 0), (44, .iload 5, 46, 0, 0), (46, .invokevirtual 43, 49, 0, 45), (49, .checkcast 97, 52, 0, 14), (52, .iload_n 1, 53, 0, 0), (53, .invokestatic 99, 56, 0, 2), (56, .astore_n 2, 57, 0, 0), (57, .iinc 5 1, 60, 1, 0)]
def CX2_nearestTo_1 : List zEn := [(60, .goto (-29), 63, 0, 31), (63, .iinc 3 1, 66, 1, 0), (66, .goto (-62), 69, 0, 4), (69, .aload_n 2, 70, 0, 0), (70, .areturn, 71, 0, 0)]
def MX2_nearestTo : zMI := (yX2_nearestTo, cX2_nearestTo, 6, (some (.object "ShadowWard$Region")), [(60, CX2_nearestTo_0), (99999, CX2_nearestTo_1)], [])
theorem DX2_nearestTo_0 : CX2_nearestTo_0.all (zchk cX2_nearestTo) = true := by decide +kernel
theorem DX2_nearestTo_1 : CX2_nearestTo_1.all (zchk cX2_nearestTo) = true := by decide +kernel
theorem OX2_nearestTo : zMOK MX2_nearestTo := by
  intro q hq e he
  simp only [MX2_nearestTo, zFt, List.mem_cons, List.not_mem_nil, or_false] at hq
  rcases hq with rfl | rfl
  · exact List.all_eq_true.mp DX2_nearestTo_0 e he
  · exact List.all_eq_true.mp DX2_nearestTo_1 e he
theorem KX2_nearestTo : zMK MX2_nearestTo := ⟨OX2_nearestTo, by decide +kernel, z_in (List.mem_of_getElem? (i := 304) (by decide +kernel)), z_in (List.mem_of_getElem? (i := 8) (by decide +kernel)), by decide +kernel, by decide +kernel⟩
theorem IX2_nearestTo : Jvm.Cond.instanceMethod yX2_nearestTo ∈ lw_tbl := z_in (List.mem_of_getElem? (i := 302) (by decide +kernel))
theorem VX2_nearestTo : Jvm.Cond.selects "ShadowWard$Frames" yX2_nearestTo yX2_nearestTo ∈ lw_tbl := z_in (List.mem_of_getElem? (i := 303) (by decide +kernel))
def CX3_init_0 : List zEn := [(0, .aload_n 0, 1, 0, 0), (1, .invokespecial 3, 4, 0, 8), (4, .aload_n 0, 5, 0, 0), (5, .new 9, 8, 0, 3), (8, .dup, 9, 0, 0), (9, .invokespecial 11, 12, 0, 9), (12, .putfield 12, 15, 0, 19), (15, .aload_n 0, 16, 0, 0), (16, .aload_n 1, 17, 0, 0), (17, .putfield 18, 20, 0, 18), (20, .return_, 21, 0, 0)]
def MX3_init : zMI := (yX3_init, cX3_init, 2, none, [(99999, CX3_init_0)], [])
theorem DX3_init_0 : CX3_init_0.all (zchk cX3_init) = true := by decide +kernel
theorem OX3_init : zMOK MX3_init := by
  intro q hq e he
  simp only [MX3_init, zFt, List.mem_cons, List.not_mem_nil, or_false] at hq
  rcases hq with rfl
  · exact List.all_eq_true.mp DX3_init_0 e he
theorem KX3_init : zMK MX3_init := ⟨OX3_init, by decide +kernel, z_in (List.mem_of_getElem? (i := 85) (by decide +kernel)), z_in (List.mem_of_getElem? (i := 4) (by decide +kernel)), by decide +kernel, by decide +kernel⟩
theorem IX3_init : Jvm.Cond.instanceMethod yX3_init ∈ lw_tbl := z_in (List.mem_of_getElem? (i := 84) (by decide +kernel))
def CX3_place_0 : List zEn := [(0, .aload_n 0, 1, 0, 0), (1, .invokevirtual 22, 4, 0, 106), (4, .istore_n 2, 5, 0, 0), (5, .iload_n 2, 6, 0, 0), (6, .iload_n 1, 7, 0, 0), (7, .iadd, 8, 0, 0), (8, .bipush 32, 10, 32, 0), (10, .iadd, 11, 0, 0), (11, .aload_n 0, 12, 0, 0), (12, .getfield 18, 15, 0, 18), (15, .getfield 26, 18, 0, 4), (18, .if_icmp .le 5, 21, 0, 23), (21, .iconst (-1), 22, (-1), 0), (22, .ireturn, 23, 0, 0), (23, .aload_n 0, 24, 0, 0), (24, .getfield 12, 27, 0, 19), (27, .new 32, 30, 0, 12), (30, .dup, 31, 0, 0), (31, .iconst 1, 32, 1, 0), (32, .aload_n 0, 33, 0, 0), (33, .getfield 12, 36, 0, 19), (36, .invokevirtual 34, 39, 0, 35), (39, .iload_n 2, 40, 0, 0), (40, .iload_n 1, 41, 0, 0), (41, .iconst 0, 42, 0, 0), (42, .invokespecial 37, 45, 0, 107), (45, .invokevirtual 40, 48, 0, 109), (48, .pop, 49, 0, 0), (49, .aload_n 0, 50, 0, 0), (50, .getfield 18, 53, 0, 18)]
def CX3_place_1 : List zEn := [(53, .iload_n 2, 54, 0, 0), (54, .iload_n 1, 55, 0, 0), (55, .invokevirtual 44, 58, 0, 110), (58, .iload_n 2, 59, 0, 0), (59, .ireturn, 60, 0, 0)]
def MX3_place : zMI := (yX3_place, cX3_place, 3, (some .int), [(53, CX3_place_0), (99999, CX3_place_1)], [])
theorem DX3_place_0 : CX3_place_0.all (zchk cX3_place) = true := by decide +kernel
theorem DX3_place_1 : CX3_place_1.all (zchk cX3_place) = true := by decide +kernel
theorem OX3_place : zMOK MX3_place := by
  intro q hq e he
  simp only [MX3_place, zFt, List.mem_cons, List.not_mem_nil, or_false] at hq
  rcases hq with rfl | rfl
  · exact List.all_eq_true.mp DX3_place_0 e he
  · exact List.all_eq_true.mp DX3_place_1 e he
theorem KX3_place : zMK MX3_place := ⟨OX3_place, by decide +kernel, z_in (List.mem_of_getElem? (i := 603) (by decide +kernel)), z_in (List.mem_of_getElem? (i := 4) (by decide +kernel)), by decide +kernel, by decide +kernel⟩
theorem IX3_place : Jvm.Cond.instanceMethod yX3_place ∈ lw_tbl := z_in (List.mem_of_getElem? (i := 601) (by decide +kernel))
theorem VX3_place : Jvm.Cond.selects "ShadowWard$Globals" yX3_place yX3_place ∈ lw_tbl := z_in (List.mem_of_getElem? (i := 602) (by decide +kernel))
def CX3_nextAddress_0 : List zEn := [(0, .aload_n 0, 1, 0, 0), (1, .getfield 12, 4, 0, 19), (4, .invokevirtual 34, 7, 0, 35), (7, .istore_n 1, 8, 0, 0), (8, .iload_n 1, 9, 0, 0), (9, .ifCond .ne 7, 12, 0, 16), (12, .iconst 0, 13, 0, 0), (13, .goto 27, 16, 0, 40), (16, .aload_n 0, 17, 0, 0), (17, .getfield 12, 20, 0, 19), (20, .iload_n 1, 21, 0, 0), (21, .iconst 1, 22, 1, 0), (22, .isub, 23, 0, 0), (23, .invokevirtual 48, 26, 0, 36), (26, .checkcast 32, 29, 0, 12), (29, .getfield 52, 32, 0, 91), (32, .bipush 32, 34, 32, 0), (34, .iadd, 35, 0, 0), (35, .bipush 32, 37, 32, 0), (37, .invokestatic 55, 40, 0, 4), (40, .ireturn, 41, 0, 0)]
def MX3_nextAddress : zMI := (yX3_nextAddress, cX3_nextAddress, 2, (some .int), [(99999, CX3_nextAddress_0)], [])
theorem DX3_nextAddress_0 : CX3_nextAddress_0.all (zchk cX3_nextAddress) = true := by decide +kernel
theorem OX3_nextAddress : zMOK MX3_nextAddress := by
  intro q hq e he
  simp only [MX3_nextAddress, zFt, List.mem_cons, List.not_mem_nil, or_false] at hq
  rcases hq with rfl
  · exact List.all_eq_true.mp DX3_nextAddress_0 e he
theorem KX3_nextAddress : zMK MX3_nextAddress := ⟨OX3_nextAddress, by decide +kernel, z_in (List.mem_of_getElem? (i := 607) (by decide +kernel)), z_in (List.mem_of_getElem? (i := 4) (by decide +kernel)), by decide +kernel, by decide +kernel⟩
theorem IX3_nextAddress : Jvm.Cond.instanceMethod yX3_nextAddress ∈ lw_tbl := z_in (List.mem_of_getElem? (i := 606) (by decide +kernel))
theorem VX3_nextAddress : Jvm.Cond.selects "ShadowWard$Globals" yX3_nextAddress yX3_nextAddress ∈ lw_tbl := List.mem_append_left _ (List.mem_of_getElem? (i := 14) (by decide +kernel))
def CX3_nearestTo_0 : List zEn := [(0, .aconst_null, 1, 0, 0), (1, .astore_n 2, 2, 0, 0), (2, .iconst 0, 3, 0, 0), (3, .istore_n 3, 4, 0, 0), (4, .iload_n 3, 5, 0, 0), (5, .aload_n 0, 6, 0, 0), (6, .getfield 12, 9, 0, 19), (9, .invokevirtual 34, 12, 0, 35), (12, .if_icmp .ge 26, 15, 0, 38), (15, .aload_n 2, 16, 0, 0), (16, .aload_n 0, 17, 0, 0), (17, .getfield 12, 20, 0, 19), (20, .iload_n 3, 21, 0, 0), (21, .invokevirtual 48, 24, 0, 36), (24, .checkcast 32, 27, 0, 12), (27, .iload_n 1, 28, 0, 0), (28, .invokestatic 59, 31, 0, 1), (31, .astore_n 2, 32, 0, 0), (32, .iinc 3 1, 35, 1, 0), (35, .goto (-31), 38, 0, 4), (38, .aload_n 2, 39, 0, 0), (39, .areturn, 40, 0, 0)]
def MX3_nearestTo : zMI := (yX3_nearestTo, cX3_nearestTo, 4, (some (.object "ShadowWard$Region")), [(99999, CX3_nearestTo_0)], [])
theorem DX3_nearestTo_0 : CX3_nearestTo_0.all (zchk cX3_nearestTo) = true := by decide +kernel
theorem OX3_nearestTo : zMOK MX3_nearestTo := by
  intro q hq e he
  simp only [MX3_nearestTo, zFt, List.mem_cons, List.not_mem_nil, or_false] at hq
  rcases hq with rfl
  · exact List.all_eq_true.mp DX3_nearestTo_0 e he
theorem KX3_nearestTo : zMK MX3_nearestTo := ⟨OX3_nearestTo, by decide +kernel, z_in (List.mem_of_getElem? (i := 271) (by decide +kernel)), z_in (List.mem_of_getElem? (i := 4) (by decide +kernel)), by decide +kernel, by decide +kernel⟩
theorem IX3_nearestTo : Jvm.Cond.instanceMethod yX3_nearestTo ∈ lw_tbl := z_in (List.mem_of_getElem? (i := 269) (by decide +kernel))
theorem VX3_nearestTo : Jvm.Cond.selects "ShadowWard$Globals" yX3_nearestTo yX3_nearestTo ∈ lw_tbl := z_in (List.mem_of_getElem? (i := 270) (by decide +kernel))
def CX4_init_0 : List zEn := [(0, .aload_n 0, 1, 0, 0), (1, .invokespecial 3, 4, 0, 17), (4, .aload_n 0, 5, 0, 0), (5, .new 9, 8, 0, 7), (8, .dup, 9, 0, 0), (9, .invokespecial 11, 12, 0, 18), (12, .putfield 12, 15, 0, 29), (15, .aload_n 0, 16, 0, 0), (16, .new 9, 19, 0, 7), (19, .dup, 20, 0, 0), (20, .invokespecial 11, 23, 0, 18), (23, .putfield 18, 26, 0, 32), (26, .aload_n 0, 27, 0, 0), (27, .iconst 0, 28, 0, 0), (28, .putfield 21, 31, 0, 35), (31, .aload_n 0, 32, 0, 0), (32, .iconst 0, 33, 0, 0), (33, .putfield 25, 36, 0, 38), (36, .aload_n 0, 37, 0, 0), (37, .iconst 0, 38, 0, 0), (38, .putfield 28, 41, 0, 40), (41, .aload_n 0, 42, 0, 0), (42, .aload_n 1, 43, 0, 0), (43, .putfield 31, 46, 0, 26), (46, .aload_n 0, 47, 0, 0), (47, .iload_n 2, 48, 0, 0), (48, .ifCond .lt 15, 51, 0, 63), (51, .iload_n 2, 52, 0, 0), (52, .aload_n 1, 53, 0, 0), (53, .getfield 35, 56, 0, 1)]
def CX4_init_1 : List zEn := [(56, .if_icmp .gt 7, 59, 0, 63), (59, .iload_n 2, 60, 0, 0), (60, .goto 6, 63, 0, 66), (63, .sipush 1024, 66, 1024, 0), (66, .putfield 40, 69, 0, 27), (69, .aload_n 0, 70, 0, 0), (70, .aload_n 1, 71, 0, 0), (71, .getfield 35, 74, 0, 1), (74, .aload_n 1, 75, 0, 0), (75, .getfield 43, 78, 0, 8), (78, .isub, 79, 0, 0), (79, .bipush 16, 81, 16, 0), (81, .idiv, 82, 0, 0), (82, .anewarray 46, 85, 0, 8), (85, .putfield 48, 88, 0, 34), (88, .return_, 89, 0, 0)]
def MX4_init : zMI := (yX4_init, cX4_init, 3, none, [(56, CX4_init_0), (99999, CX4_init_1)], [])
theorem DX4_init_0 : CX4_init_0.all (zchk cX4_init) = true := by decide +kernel
theorem DX4_init_1 : CX4_init_1.all (zchk cX4_init) = true := by decide +kernel
theorem OX4_init : zMOK MX4_init := by
  intro q hq e he
  simp only [MX4_init, zFt, List.mem_cons, List.not_mem_nil, or_false] at hq
  rcases hq with rfl | rfl
  · exact List.all_eq_true.mp DX4_init_0 e he
  · exact List.all_eq_true.mp DX4_init_1 e he
theorem KX4_init : zMK MX4_init := ⟨OX4_init, by decide +kernel, z_in (List.mem_of_getElem? (i := 143) (by decide +kernel)), z_in (List.mem_of_getElem? (i := 9) (by decide +kernel)), by decide +kernel, by decide +kernel⟩
theorem IX4_init : Jvm.Cond.instanceMethod yX4_init ∈ lw_tbl := z_in (List.mem_of_getElem? (i := 142) (by decide +kernel))
def CX4_give_0 : List zEn := [(0, .aload_n 0, 1, 0, 0), (1, .getfield 12, 4, 0, 29), (4, .invokevirtual 52, 7, 0, 47), (7, .sipush 512, 10, 512, 0), (10, .if_icmp .lt 5, 13, 0, 15), (13, .aconst_null, 14, 0, 0), (14, .areturn, 15, 0, 0), (15, .aload_n 0, 16, 0, 0), (16, .iload_n 2, 17, 0, 0), (17, .invokestatic 55, 20, 0, 149), (20, .bipush 16, 22, 16, 0), (22, .idiv, 23, 0, 0), (23, .invokevirtual 59, 26, 0, 151), (26, .istore 4, 28, 0, 0), (28, .iload 4, 30, 0, 0), (30, .iconst (-1), 31, (-1), 0), (31, .if_icmp .ne 5, 34, 0, 36), (34, .aconst_null, 35, 0, 0), (35, .areturn, 36, 0, 0), (36, .new 46, 39, 0, 8), (39, .dup, 40, 0, 0), (40, .aload_n 0, 41, 0, 0), (41, .getfield 12, 44, 0, 29), (44, .invokevirtual 52, 47, 0, 47), (47, .iload_n 1, 48, 0, 0), (48, .iload_n 2, 49, 0, 0), (49, .iload_n 3, 50, 0, 0), (50, .aload_n 0, 51, 0, 0), (51, .getfield 31, 54, 0, 26), (54, .getfield 43, 57, 0, 8)]
def CX4_give_1 : List zEn := [(57, .iload 4, 59, 0, 0), (59, .bipush 16, 61, 16, 0), (61, .imul, 62, 0, 0), (62, .iadd, 63, 0, 0), (63, .invokespecial 62, 66, 0, 160), (66, .astore 5, 68, 0, 0), (68, .aload_n 0, 69, 0, 0), (69, .getfield 12, 72, 0, 29), (72, .aload 5, 74, 0, 0), (74, .invokevirtual 65, 77, 0, 163), (77, .pop, 78, 0, 0), (78, .aload_n 0, 79, 0, 0), (79, .aload 5, 81, 0, 0), (81, .aload 5, 83, 0, 0), (83, .invokevirtual 69, 86, 0, 157), (86, .aload_n 0, 87, 0, 0), (87, .dup, 88, 0, 0), (88, .getfield 21, 91, 0, 35), (91, .iconst 1, 92, 1, 0), (92, .iadd, 93, 0, 0), (93, .putfield 21, 96, 0, 35), (96, .aload_n 0, 97, 0, 0), (97, .dup, 98, 0, 0), (98, .getfield 25, 101, 0, 38), (101, .aload 5, 103, 0, 0), (103, .getfield 73, 106, 0, 116), (106, .iadd, 107, 0, 0), (107, .putfield 25, 110, 0, 38), (110, .aload_n 0, 111, 0, 0), (111, .getfield 31, 114, 0, 26)]
def CX4_give_2 : List zEn := [(114, .aload 5, 116, 0, 0), (116, .getfield 76, 119, 0, 77), (119, .iload_n 2, 120, 0, 0), (120, .sipush 190, 123, 190, 0), (123, .invokevirtual 79, 126, 0, 164), (126, .aload_n 0, 127, 0, 0), (127, .getfield 31, 130, 0, 26), (130, .aload 5, 132, 0, 0), (132, .getfield 83, 135, 0, 114), (135, .aload 5, 137, 0, 0), (137, .getfield 73, 140, 0, 116), (140, .sipush 250, 143, 250, 0), (143, .invokevirtual 86, 146, 0, 156), (146, .aload_n 0, 147, 0, 0), (147, .getfield 31, 150, 0, 26), (150, .aload 5, 152, 0, 0), (152, .getfield 76, 155, 0, 77), (155, .iload_n 2, 156, 0, 0), (156, .invokevirtual 89, 159, 0, 165), (159, .aload 5, 161, 0, 0), (161, .areturn, 162, 0, 0)]
def MX4_give : zMI := (yX4_give, cX4_give, 6, (some (.object "ShadowWard$Block")), [(57, CX4_give_0), (114, CX4_give_1), (99999, CX4_give_2)], [])
theorem DX4_give_0 : CX4_give_0.all (zchk cX4_give) = true := by decide +kernel
theorem DX4_give_1 : CX4_give_1.all (zchk cX4_give) = true := by decide +kernel
theorem DX4_give_2 : CX4_give_2.all (zchk cX4_give) = true := by decide +kernel
theorem OX4_give : zMOK MX4_give := by
  intro q hq e he
  simp only [MX4_give, zFt, List.mem_cons, List.not_mem_nil, or_false] at hq
  rcases hq with rfl | rfl | rfl
  · exact List.all_eq_true.mp DX4_give_0 e he
  · exact List.all_eq_true.mp DX4_give_1 e he
  · exact List.all_eq_true.mp DX4_give_2 e he
theorem KX4_give : zMK MX4_give := ⟨OX4_give, by decide +kernel, z_in (List.mem_of_getElem? (i := 837) (by decide +kernel)), z_in (List.mem_of_getElem? (i := 9) (by decide +kernel)), by decide +kernel, by decide +kernel⟩
theorem IX4_give : Jvm.Cond.instanceMethod yX4_give ∈ lw_tbl := z_in (List.mem_of_getElem? (i := 835) (by decide +kernel))
theorem VX4_give : Jvm.Cond.selects "ShadowWard$Heap" yX4_give yX4_give ∈ lw_tbl := z_in (List.mem_of_getElem? (i := 836) (by decide +kernel))
def CX4_unitWithRoom_0 : List zEn := [(0, .aload_n 0, 1, 0, 0), (1, .iload_n 1, 2, 0, 0), (2, .invokevirtual 93, 5, 0, 152), (5, .istore_n 2, 6, 0, 0), (6, .aload_n 0, 7, 0, 0), (7, .getfield 18, 10, 0, 32), (10, .invokevirtual 52, 13, 0, 47), (13, .istore_n 3, 14, 0, 0), (14, .iload_n 3, 15, 0, 0), (15, .ifCond .le 24, 18, 0, 39), (18, .iload_n 2, 19, 0, 0), (19, .iconst (-1), 20, (-1), 0), (20, .if_icmp .ne 19, 23, 0, 39), (23, .aload_n 0, 24, 0, 0), (24, .invokevirtual 96, 27, 0, 153), (27, .aload_n 0, 28, 0, 0), (28, .iload_n 1, 29, 0, 0), (29, .invokevirtual 93, 32, 0, 152), (32, .istore_n 2, 33, 0, 0), (33, .iinc 3 (-1), 36, (-1), 0), (36, .goto (-22), 39, 0, 14), (39, .iload_n 2, 40, 0, 0), (40, .ireturn, 41, 0, 0)]
def MX4_unitWithRoom : zMI := (yX4_unitWithRoom, cX4_unitWithRoom, 4, (some .int), [(99999, CX4_unitWithRoom_0)], [])
theorem DX4_unitWithRoom_0 : CX4_unitWithRoom_0.all (zchk cX4_unitWithRoom) = true := by decide +kernel
theorem OX4_unitWithRoom : zMOK MX4_unitWithRoom := by
  intro q hq e he
  simp only [MX4_unitWithRoom, zFt, List.mem_cons, List.not_mem_nil, or_false] at hq
  rcases hq with rfl
  · exact List.all_eq_true.mp DX4_unitWithRoom_0 e he
theorem KX4_unitWithRoom : zMK MX4_unitWithRoom := ⟨OX4_unitWithRoom, by decide +kernel, z_in (List.mem_of_getElem? (i := 848) (by decide +kernel)), z_in (List.mem_of_getElem? (i := 9) (by decide +kernel)), by decide +kernel, by decide +kernel⟩
theorem IX4_unitWithRoom : Jvm.Cond.instanceMethod yX4_unitWithRoom ∈ lw_tbl := z_in (List.mem_of_getElem? (i := 847) (by decide +kernel))
theorem VX4_unitWithRoom : Jvm.Cond.selects "ShadowWard$Heap" yX4_unitWithRoom yX4_unitWithRoom ∈ lw_tbl := List.mem_append_left _ (List.mem_of_getElem? (i := 19) (by decide +kernel))
def CX4_firstFreeRun_0 : List zEn := [(0, .iconst 0, 1, 0, 0), (1, .istore_n 2, 2, 0, 0), (2, .iconst 0, 3, 0, 0), (3, .istore_n 3, 4, 0, 0), (4, .iload_n 3, 5, 0, 0), (5, .aload_n 0, 6, 0, 0), (6, .getfield 48, 9, 0, 34), (9, .arraylength, 10, 0, 0), (10, .if_icmp .ge 37, 13, 0, 47), (13, .aload_n 0, 14, 0, 0), (14, .getfield 48, 17, 0, 34), (17, .iload_n 3, 18, 0, 0), (18, .aaload, 19, 0, 0), (19, .ifnonnull 9, 22, 0, 28), (22, .iload_n 2, 23, 0, 0), (23, .iconst 1, 24, 1, 0), (24, .iadd, 25, 0, 0), (25, .goto 4, 28, 0, 29), (28, .iconst 0, 29, 0, 0), (29, .istore_n 2, 30, 0, 0), (30, .iload_n 2, 31, 0, 0), (31, .iload_n 1, 32, 0, 0), (32, .if_icmp .ne 9, 35, 0, 41), (35, .iload_n 3, 36, 0, 0), (36, .iload_n 1, 37, 0, 0), (37, .isub, 38, 0, 0), (38, .iconst 1, 39, 1, 0), (39, .iadd, 40, 0, 0), (40, .ireturn, 41, 0, 0), (41, .iinc 3 1, 44, 1, 0)]
def CX4_firstFreeRun_1 : List zEn := [(44, .goto (-40), 47, 0, 4), (47, .iconst (-1), 48, (-1), 0), (48, .ireturn, 49, 0, 0)]
def MX4_firstFreeRun : zMI := (yX4_firstFreeRun, cX4_firstFreeRun, 4, (some .int), [(44, CX4_firstFreeRun_0), (99999, CX4_firstFreeRun_1)], [])
theorem DX4_firstFreeRun_0 : CX4_firstFreeRun_0.all (zchk cX4_firstFreeRun) = true := by decide +kernel
theorem DX4_firstFreeRun_1 : CX4_firstFreeRun_1.all (zchk cX4_firstFreeRun) = true := by decide +kernel
theorem OX4_firstFreeRun : zMOK MX4_firstFreeRun := by
  intro q hq e he
  simp only [MX4_firstFreeRun, zFt, List.mem_cons, List.not_mem_nil, or_false] at hq
  rcases hq with rfl | rfl
  · exact List.all_eq_true.mp DX4_firstFreeRun_0 e he
  · exact List.all_eq_true.mp DX4_firstFreeRun_1 e he
theorem KX4_firstFreeRun : zMK MX4_firstFreeRun := ⟨OX4_firstFreeRun, by decide +kernel, z_in (List.mem_of_getElem? (i := 852) (by decide +kernel)), z_in (List.mem_of_getElem? (i := 9) (by decide +kernel)), by decide +kernel, by decide +kernel⟩
theorem IX4_firstFreeRun : Jvm.Cond.instanceMethod yX4_firstFreeRun ∈ lw_tbl := z_in (List.mem_of_getElem? (i := 851) (by decide +kernel))
theorem VX4_firstFreeRun : Jvm.Cond.selects "ShadowWard$Heap" yX4_firstFreeRun yX4_firstFreeRun ∈ lw_tbl := List.mem_append_left _ (List.mem_of_getElem? (i := 20) (by decide +kernel))
def CX4_setOwner_0 : List zEn := [(0, .iconst 0, 1, 0, 0), (1, .aload_n 1, 2, 0, 0), (2, .getfield 83, 5, 0, 114), (5, .aload_n 0, 6, 0, 0), (6, .getfield 31, 9, 0, 26), (9, .getfield 43, 12, 0, 8), (12, .isub, 13, 0, 0), (13, .bipush 16, 15, 16, 0), (15, .idiv, 16, 0, 0), (16, .invokestatic 99, 19, 0, 158), (19, .istore_n 3, 20, 0, 0), (20, .aload_n 0, 21, 0, 0), (21, .getfield 48, 24, 0, 34), (24, .arraylength, 25, 0, 0), (25, .iload_n 3, 26, 0, 0), (26, .aload_n 1, 27, 0, 0), (27, .getfield 73, 30, 0, 116), (30, .bipush 16, 32, 16, 0), (32, .idiv, 33, 0, 0), (33, .iadd, 34, 0, 0), (34, .invokestatic 105, 37, 0, 159), (37, .istore 4, 39, 0, 0), (39, .iload_n 3, 40, 0, 0), (40, .istore 5, 42, 0, 0), (42, .iload 5, 44, 0, 0), (44, .iload 4, 46, 0, 0), (46, .if_icmp .ge 17, 49, 0, 63), (49, .aload_n 0, 50, 0, 0), (50, .getfield 48, 53, 0, 34), (53, .iload 5, 55, 0, 0)]
def CX4_setOwner_1 : List zEn := [(55, .aload_n 2, 56, 0, 0), (56, .aastore, 57, 0, 0), (57, .iinc 5 1, 60, 1, 0), (60, .goto (-18), 63, 0, 42), (63, .return_, 64, 0, 0)]
def MX4_setOwner : zMI := (yX4_setOwner, cX4_setOwner, 6, none, [(55, CX4_setOwner_0), (99999, CX4_setOwner_1)], [])
theorem DX4_setOwner_0 : CX4_setOwner_0.all (zchk cX4_setOwner) = true := by decide +kernel
theorem DX4_setOwner_1 : CX4_setOwner_1.all (zchk cX4_setOwner) = true := by decide +kernel
theorem OX4_setOwner : zMOK MX4_setOwner := by
  intro q hq e he
  simp only [MX4_setOwner, zFt, List.mem_cons, List.not_mem_nil, or_false] at hq
  rcases hq with rfl | rfl
  · exact List.all_eq_true.mp DX4_setOwner_0 e he
  · exact List.all_eq_true.mp DX4_setOwner_1 e he
theorem KX4_setOwner : zMK MX4_setOwner := ⟨OX4_setOwner, by decide +kernel, z_in (List.mem_of_getElem? (i := 866) (by decide +kernel)), z_in (List.mem_of_getElem? (i := 9) (by decide +kernel)), by decide +kernel, by decide +kernel⟩
theorem IX4_setOwner : Jvm.Cond.instanceMethod yX4_setOwner ∈ lw_tbl := z_in (List.mem_of_getElem? (i := 865) (by decide +kernel))
theorem VX4_setOwner : Jvm.Cond.selects "ShadowWard$Heap" yX4_setOwner yX4_setOwner ∈ lw_tbl := List.mem_append_left _ (List.mem_of_getElem? (i := 22) (by decide +kernel))
def CX4_takeBack_0 : List zEn := [(0, .aload_n 1, 1, 0, 0), (1, .iconst 1, 2, 1, 0), (2, .putfield 108, 5, 0, 118), (5, .aload_n 1, 6, 0, 0), (6, .iload_n 2, 7, 0, 0), (7, .putfield 111, 10, 0, 99), (10, .aload_n 0, 11, 0, 0), (11, .dup, 12, 0, 0), (12, .getfield 21, 15, 0, 35), (15, .iconst 1, 16, 1, 0), (16, .isub, 17, 0, 0), (17, .putfield 21, 20, 0, 35), (20, .aload_n 0, 21, 0, 0), (21, .dup, 22, 0, 0), (22, .getfield 25, 25, 0, 38), (25, .aload_n 1, 26, 0, 0), (26, .getfield 73, 29, 0, 116), (29, .isub, 30, 0, 0), (30, .putfield 25, 33, 0, 38), (33, .aload_n 0, 34, 0, 0), (34, .dup, 35, 0, 0), (35, .getfield 28, 38, 0, 40), (38, .aload_n 1, 39, 0, 0), (39, .getfield 73, 42, 0, 116), (42, .iadd, 43, 0, 0), (43, .putfield 28, 46, 0, 40), (46, .aload_n 0, 47, 0, 0), (47, .getfield 18, 50, 0, 32), (50, .aload_n 1, 51, 0, 0), (51, .invokevirtual 65, 54, 0, 163)]
def CX4_takeBack_1 : List zEn := [(54, .pop, 55, 0, 0), (55, .aload_n 0, 56, 0, 0), (56, .getfield 31, 59, 0, 26), (59, .aload_n 1, 60, 0, 0), (60, .getfield 76, 63, 0, 77), (63, .aload_n 1, 64, 0, 0), (64, .getfield 114, 67, 0, 87), (67, .sipush 253, 70, 253, 0), (70, .invokevirtual 86, 73, 0, 156), (73, .aload_n 0, 74, 0, 0), (74, .getfield 18, 77, 0, 32), (77, .invokevirtual 52, 80, 0, 47), (80, .istore_n 3, 81, 0, 0), (81, .iload_n 3, 82, 0, 0), (82, .ifCond .le 24, 85, 0, 106), (85, .aload_n 0, 86, 0, 0), (86, .getfield 28, 89, 0, 40), (89, .aload_n 0, 90, 0, 0), (90, .getfield 40, 93, 0, 27), (93, .if_icmp .le 13, 96, 0, 106), (96, .aload_n 0, 97, 0, 0), (97, .invokevirtual 96, 100, 0, 153), (100, .iinc 3 (-1), 103, (-1), 0), (103, .goto (-22), 106, 0, 81), (106, .return_, 107, 0, 0)]
def MX4_takeBack : zMI := (yX4_takeBack, cX4_takeBack, 4, none, [(54, CX4_takeBack_0), (99999, CX4_takeBack_1)], [])
theorem DX4_takeBack_0 : CX4_takeBack_0.all (zchk cX4_takeBack) = true := by decide +kernel
theorem DX4_takeBack_1 : CX4_takeBack_1.all (zchk cX4_takeBack) = true := by decide +kernel
theorem OX4_takeBack : zMOK MX4_takeBack := by
  intro q hq e he
  simp only [MX4_takeBack, zFt, List.mem_cons, List.not_mem_nil, or_false] at hq
  rcases hq with rfl | rfl
  · exact List.all_eq_true.mp DX4_takeBack_0 e he
  · exact List.all_eq_true.mp DX4_takeBack_1 e he
theorem KX4_takeBack : zMK MX4_takeBack := ⟨OX4_takeBack, by decide +kernel, z_in (List.mem_of_getElem? (i := 931) (by decide +kernel)), z_in (List.mem_of_getElem? (i := 9) (by decide +kernel)), by decide +kernel, by decide +kernel⟩
theorem IX4_takeBack : Jvm.Cond.instanceMethod yX4_takeBack ∈ lw_tbl := z_in (List.mem_of_getElem? (i := 929) (by decide +kernel))
theorem VX4_takeBack : Jvm.Cond.selects "ShadowWard$Heap" yX4_takeBack yX4_takeBack ∈ lw_tbl := z_in (List.mem_of_getElem? (i := 930) (by decide +kernel))
def CX4_releaseOldest_0 : List zEn := [(0, .aload_n 0, 1, 0, 0), (1, .getfield 18, 4, 0, 32), (4, .invokevirtual 115, 7, 0, 154), (7, .ifCond .eq 4, 10, 0, 11), (10, .return_, 11, 0, 0), (11, .aload_n 0, 12, 0, 0), (12, .getfield 18, 15, 0, 32), (15, .iconst 0, 16, 0, 0), (16, .invokevirtual 119, 19, 0, 155), (19, .checkcast 46, 22, 0, 8), (22, .astore_n 1, 23, 0, 0), (23, .aload_n 1, 24, 0, 0), (24, .iconst 2, 25, 2, 0), (25, .putfield 108, 28, 0, 118), (28, .aload_n 0, 29, 0, 0), (29, .dup, 30, 0, 0), (30, .getfield 28, 33, 0, 40), (33, .aload_n 1, 34, 0, 0), (34, .getfield 73, 37, 0, 116), (37, .isub, 38, 0, 0), (38, .putfield 28, 41, 0, 40), (41, .aload_n 0, 42, 0, 0), (42, .getfield 31, 45, 0, 26), (45, .aload_n 1, 46, 0, 0), (46, .getfield 83, 49, 0, 114), (49, .aload_n 1, 50, 0, 0), (50, .getfield 73, 53, 0, 116), (53, .sipush 250, 56, 250, 0), (56, .invokevirtual 86, 59, 0, 156), (59, .aload_n 0, 60, 0, 0)]
def CX4_releaseOldest_1 : List zEn := [(60, .aload_n 1, 61, 0, 0), (61, .aconst_null, 62, 0, 0), (62, .invokevirtual 69, 65, 0, 157), (65, .return_, 66, 0, 0)]
def MX4_releaseOldest : zMI := (yX4_releaseOldest, cX4_releaseOldest, 2, none, [(60, CX4_releaseOldest_0), (99999, CX4_releaseOldest_1)], [])
theorem DX4_releaseOldest_0 : CX4_releaseOldest_0.all (zchk cX4_releaseOldest) = true := by decide +kernel
theorem DX4_releaseOldest_1 : CX4_releaseOldest_1.all (zchk cX4_releaseOldest) = true := by decide +kernel
theorem OX4_releaseOldest : zMOK MX4_releaseOldest := by
  intro q hq e he
  simp only [MX4_releaseOldest, zFt, List.mem_cons, List.not_mem_nil, or_false] at hq
  rcases hq with rfl | rfl
  · exact List.all_eq_true.mp DX4_releaseOldest_0 e he
  · exact List.all_eq_true.mp DX4_releaseOldest_1 e he
theorem KX4_releaseOldest : zMK MX4_releaseOldest := ⟨OX4_releaseOldest, by decide +kernel, z_in (List.mem_of_getElem? (i := 856) (by decide +kernel)), z_in (List.mem_of_getElem? (i := 9) (by decide +kernel)), by decide +kernel, by decide +kernel⟩
theorem IX4_releaseOldest : Jvm.Cond.instanceMethod yX4_releaseOldest ∈ lw_tbl := z_in (List.mem_of_getElem? (i := 855) (by decide +kernel))
theorem VX4_releaseOldest : Jvm.Cond.selects "ShadowWard$Heap" yX4_releaseOldest yX4_releaseOldest ∈ lw_tbl := List.mem_append_left _ (List.mem_of_getElem? (i := 21) (by decide +kernel))
def CX4_chunkOwner_0 : List zEn := [(0, .iload_n 1, 1, 0, 0), (1, .aload_n 0, 2, 0, 0), (2, .getfield 31, 5, 0, 26), (5, .getfield 43, 8, 0, 8), (8, .if_icmp .ge 5, 11, 0, 13), (11, .aconst_null, 12, 0, 0), (12, .areturn, 13, 0, 0), (13, .iload_n 1, 14, 0, 0), (14, .aload_n 0, 15, 0, 0), (15, .getfield 31, 18, 0, 26), (18, .getfield 43, 21, 0, 8), (21, .isub, 22, 0, 0), (22, .bipush 16, 24, 16, 0), (24, .idiv, 25, 0, 0), (25, .istore_n 2, 26, 0, 0), (26, .iload_n 2, 27, 0, 0), (27, .aload_n 0, 28, 0, 0), (28, .getfield 48, 31, 0, 34), (31, .arraylength, 32, 0, 0), (32, .if_icmp .ge 12, 35, 0, 44), (35, .aload_n 0, 36, 0, 0), (36, .getfield 48, 39, 0, 34), (39, .iload_n 2, 40, 0, 0), (40, .aaload, 41, 0, 0), (41, .goto 4, 44, 0, 45), (44, .aconst_null, 45, 0, 0), (45, .areturn, 46, 0, 0)]
def MX4_chunkOwner : zMI := (yX4_chunkOwner, cX4_chunkOwner, 3, (some (.object "ShadowWard$Block")), [(99999, CX4_chunkOwner_0)], [])
theorem DX4_chunkOwner_0 : CX4_chunkOwner_0.all (zchk cX4_chunkOwner) = true := by decide +kernel
theorem OX4_chunkOwner : zMOK MX4_chunkOwner := by
  intro q hq e he
  simp only [MX4_chunkOwner, zFt, List.mem_cons, List.not_mem_nil, or_false] at hq
  rcases hq with rfl
  · exact List.all_eq_true.mp DX4_chunkOwner_0 e he
theorem KX4_chunkOwner : zMK MX4_chunkOwner := ⟨OX4_chunkOwner, by decide +kernel, z_in (List.mem_of_getElem? (i := 565) (by decide +kernel)), z_in (List.mem_of_getElem? (i := 9) (by decide +kernel)), by decide +kernel, by decide +kernel⟩
theorem IX4_chunkOwner : Jvm.Cond.instanceMethod yX4_chunkOwner ∈ lw_tbl := z_in (List.mem_of_getElem? (i := 564) (by decide +kernel))
theorem VX4_chunkOwner : Jvm.Cond.selects "ShadowWard$Heap" yX4_chunkOwner yX4_chunkOwner ∈ lw_tbl := List.mem_append_left _ (List.mem_of_getElem? (i := 11) (by decide +kernel))
def CX4_blockAt_0 : List zEn := [(0, .aload_n 0, 1, 0, 0), (1, .iload_n 1, 2, 0, 0), (2, .invokevirtual 123, 5, 0, 94), (5, .astore_n 2, 6, 0, 0), (6, .aload_n 2, 7, 0, 0), (7, .ifnull 15, 10, 0, 22), (10, .aload_n 2, 11, 0, 0), (11, .getfield 76, 14, 0, 77), (14, .iload_n 1, 15, 0, 0), (15, .if_icmp .ne 7, 18, 0, 22), (18, .aload_n 2, 19, 0, 0), (19, .goto 4, 22, 0, 23), (22, .aconst_null, 23, 0, 0), (23, .areturn, 24, 0, 0)]
def MX4_blockAt : zMI := (yX4_blockAt, cX4_blockAt, 3, (some (.object "ShadowWard$Block")), [(99999, CX4_blockAt_0)], [])
theorem DX4_blockAt_0 : CX4_blockAt_0.all (zchk cX4_blockAt) = true := by decide +kernel
theorem OX4_blockAt : zMOK MX4_blockAt := by
  intro q hq e he
  simp only [MX4_blockAt, zFt, List.mem_cons, List.not_mem_nil, or_false] at hq
  rcases hq with rfl
  · exact List.all_eq_true.mp DX4_blockAt_0 e he
theorem KX4_blockAt : zMK MX4_blockAt := ⟨OX4_blockAt, by decide +kernel, z_in (List.mem_of_getElem? (i := 927) (by decide +kernel)), z_in (List.mem_of_getElem? (i := 9) (by decide +kernel)), by decide +kernel, by decide +kernel⟩
theorem IX4_blockAt : Jvm.Cond.instanceMethod yX4_blockAt ∈ lw_tbl := z_in (List.mem_of_getElem? (i := 925) (by decide +kernel))
theorem VX4_blockAt : Jvm.Cond.selects "ShadowWard$Heap" yX4_blockAt yX4_blockAt ∈ lw_tbl := z_in (List.mem_of_getElem? (i := 926) (by decide +kernel))
def CX4_liveBlockWith_0 : List zEn := [(0, .aload_n 0, 1, 0, 0), (1, .iload_n 1, 2, 0, 0), (2, .invokevirtual 123, 5, 0, 94), (5, .astore_n 2, 6, 0, 0), (6, .aload_n 2, 7, 0, 0), (7, .ifnull 22, 10, 0, 29), (10, .aload_n 2, 11, 0, 0), (11, .getfield 108, 14, 0, 118), (14, .ifCond .ne 15, 17, 0, 29), (17, .aload_n 2, 18, 0, 0), (18, .iload_n 1, 19, 0, 0), (19, .invokevirtual 127, 22, 0, 95), (22, .ifCond .eq 7, 25, 0, 29), (25, .aload_n 2, 26, 0, 0), (26, .goto 4, 29, 0, 30), (29, .aconst_null, 30, 0, 0), (30, .areturn, 31, 0, 0)]
def MX4_liveBlockWith : zMI := (yX4_liveBlockWith, cX4_liveBlockWith, 3, (some (.object "ShadowWard$Block")), [(99999, CX4_liveBlockWith_0)], [])
theorem DX4_liveBlockWith_0 : CX4_liveBlockWith_0.all (zchk cX4_liveBlockWith) = true := by decide +kernel
theorem OX4_liveBlockWith : zMOK MX4_liveBlockWith := by
  intro q hq e he
  simp only [MX4_liveBlockWith, zFt, List.mem_cons, List.not_mem_nil, or_false] at hq
  rcases hq with rfl
  · exact List.all_eq_true.mp DX4_liveBlockWith_0 e he
theorem KX4_liveBlockWith : zMK MX4_liveBlockWith := ⟨OX4_liveBlockWith, by decide +kernel, z_in (List.mem_of_getElem? (i := 561) (by decide +kernel)), z_in (List.mem_of_getElem? (i := 9) (by decide +kernel)), by decide +kernel, by decide +kernel⟩
theorem IX4_liveBlockWith : Jvm.Cond.instanceMethod yX4_liveBlockWith ∈ lw_tbl := z_in (List.mem_of_getElem? (i := 559) (by decide +kernel))
theorem VX4_liveBlockWith : Jvm.Cond.selects "ShadowWard$Heap" yX4_liveBlockWith yX4_liveBlockWith ∈ lw_tbl := z_in (List.mem_of_getElem? (i := 560) (by decide +kernel))
def CX4_nearestTo_0 : List zEn := [(0, .aconst_null, 1, 0, 0), (1, .astore_n 2, 2, 0, 0), (2, .iconst 0, 3, 0, 0), (3, .istore_n 3, 4, 0, 0), (4, .iload_n 3, 5, 0, 0), (5, .aload_n 0, 6, 0, 0), (6, .getfield 12, 9, 0, 29), (9, .invokevirtual 52, 12, 0, 47), (12, .if_icmp .ge 39, 15, 0, 51), (15, .aload_n 0, 16, 0, 0), (16, .getfield 12, 19, 0, 29), (19, .iload_n 3, 20, 0, 0), (20, .invokevirtual 131, 23, 0, 48), (23, .checkcast 46, 26, 0, 8), (26, .astore 4, 28, 0, 0), (28, .aload 4, 30, 0, 0), (30, .getfield 108, 33, 0, 118), (33, .iconst 2, 34, 2, 0), (34, .if_icmp .eq 11, 37, 0, 45), (37, .aload_n 2, 38, 0, 0), (38, .aload 4, 40, 0, 0), (40, .iload_n 1, 41, 0, 0), (41, .invokestatic 134, 44, 0, 3), (44, .astore_n 2, 45, 0, 0), (45, .iinc 3 1, 48, 1, 0), (48, .goto (-44), 51, 0, 4), (51, .aload_n 2, 52, 0, 0), (52, .areturn, 53, 0, 0)]
def MX4_nearestTo : zMI := (yX4_nearestTo, cX4_nearestTo, 5, (some (.object "ShadowWard$Region")), [(99999, CX4_nearestTo_0)], [])
theorem DX4_nearestTo_0 : CX4_nearestTo_0.all (zchk cX4_nearestTo) = true := by decide +kernel
theorem OX4_nearestTo : zMOK MX4_nearestTo := by
  intro q hq e he
  simp only [MX4_nearestTo, zFt, List.mem_cons, List.not_mem_nil, or_false] at hq
  rcases hq with rfl
  · exact List.all_eq_true.mp DX4_nearestTo_0 e he
theorem KX4_nearestTo : zMK MX4_nearestTo := ⟨OX4_nearestTo, by decide +kernel, z_in (List.mem_of_getElem? (i := 317) (by decide +kernel)), z_in (List.mem_of_getElem? (i := 9) (by decide +kernel)), by decide +kernel, by decide +kernel⟩
theorem IX4_nearestTo : Jvm.Cond.instanceMethod yX4_nearestTo ∈ lw_tbl := z_in (List.mem_of_getElem? (i := 315) (by decide +kernel))
theorem VX4_nearestTo : Jvm.Cond.selects "ShadowWard$Heap" yX4_nearestTo yX4_nearestTo ∈ lw_tbl := z_in (List.mem_of_getElem? (i := 316) (by decide +kernel))
def CX5_init_0 : List zEn := [(0, .aload_n 0, 1, 0, 0), (1, .invokespecial 3, 4, 0, 20), (4, .aload_n 0, 5, 0, 0), (5, .new 9, 8, 0, 10), (8, .dup, 9, 0, 0), (9, .invokespecial 11, 12, 0, 21), (12, .putfield 12, 15, 0, 46), (15, .aload_n 0, 16, 0, 0), (16, .aload_n 1, 17, 0, 0), (17, .putfield 18, 20, 0, 42), (20, .aload_n 0, 21, 0, 0), (21, .aload_n 2, 22, 0, 0), (22, .putfield 22, 25, 0, 43), (25, .aload_n 0, 26, 0, 0), (26, .aload_n 3, 27, 0, 0), (27, .putfield 26, 30, 0, 44), (30, .aload_n 0, 31, 0, 0), (31, .aload 4, 33, 0, 0), (33, .putfield 30, 36, 0, 45), (36, .return_, 37, 0, 0)]
def MX5_init : zMI := (yX5_init, cX5_init, 5, none, [(99999, CX5_init_0)], [])
theorem DX5_init_0 : CX5_init_0.all (zchk cX5_init) = true := by decide +kernel
theorem OX5_init : zMOK MX5_init := by
  intro q hq e he
  simp only [MX5_init, zFt, List.mem_cons, List.not_mem_nil, or_false] at hq
  rcases hq with rfl
  · exact List.all_eq_true.mp DX5_init_0 e he
theorem KX5_init : zMK MX5_init := ⟨OX5_init, by decide +kernel, z_in (List.mem_of_getElem? (i := 186) (by decide +kernel)), z_in (List.mem_of_getElem? (i := 10) (by decide +kernel)), by decide +kernel, by decide +kernel⟩
theorem IX5_init : Jvm.Cond.instanceMethod yX5_init ∈ lw_tbl := z_in (List.mem_of_getElem? (i := 185) (by decide +kernel))
def CX5_firstFrom_0 : List zEn := [(0, .aload_n 0, 1, 0, 0), (1, .invokevirtual 34, 4, 0, 85), (4, .iload_n 2, 5, 0, 0), (5, .ifCond .eq 7, 8, 0, 12), (8, .aload_n 0, 9, 0, 0), (9, .invokevirtual 37, 12, 0, 98), (12, .iconst 0, 13, 0, 0), (13, .iload_n 1, 14, 0, 0), (14, .invokestatic 40, 17, 0, 101), (17, .istore_n 3, 18, 0, 0), (18, .iload_n 3, 19, 0, 0), (19, .aload_n 0, 20, 0, 0), (20, .getfield 30, 23, 0, 45), (23, .getfield 46, 26, 0, 30), (26, .invokevirtual 51, 29, 0, 87), (29, .if_icmp .ge 47, 32, 0, 76), (32, .aload_n 0, 33, 0, 0), (33, .getfield 30, 36, 0, 45), (36, .getfield 46, 39, 0, 30), (39, .iload_n 3, 40, 0, 0), (40, .invokevirtual 55, 43, 0, 88), (43, .checkcast 59, 46, 0, 20), (46, .astore 4, 48, 0, 0), (48, .aload 4, 50, 0, 0), (50, .invokevirtual 61, 53, 0, 99), (53, .ifCond .eq 17, 56, 0, 70), (56, .iload_n 2, 57, 0, 0), (57, .ifCond .eq 11, 60, 0, 68), (60, .aload 4, 62, 0, 0), (62, .getfield 65, 65, 0, 122)]
def CX5_firstFrom_1 : List zEn := [(65, .ifCond .ne 5, 68, 0, 70), (68, .iload_n 3, 69, 0, 0), (69, .ireturn, 70, 0, 0), (70, .iinc 3 1, 73, 1, 0), (73, .goto (-55), 76, 0, 18), (76, .iconst (-1), 77, (-1), 0), (77, .ireturn, 78, 0, 0)]
def MX5_firstFrom : zMI := (yX5_firstFrom, cX5_firstFrom, 5, (some .int), [(65, CX5_firstFrom_0), (99999, CX5_firstFrom_1)], [])
theorem DX5_firstFrom_0 : CX5_firstFrom_0.all (zchk cX5_firstFrom) = true := by decide +kernel
theorem DX5_firstFrom_1 : CX5_firstFrom_1.all (zchk cX5_firstFrom) = true := by decide +kernel
theorem OX5_firstFrom : zMOK MX5_firstFrom := by
  intro q hq e he
  simp only [MX5_firstFrom, zFt, List.mem_cons, List.not_mem_nil, or_false] at hq
  rcases hq with rfl | rfl
  · exact List.all_eq_true.mp DX5_firstFrom_0 e he
  · exact List.all_eq_true.mp DX5_firstFrom_1 e he
theorem KX5_firstFrom : zMK MX5_firstFrom := ⟨OX5_firstFrom, by decide +kernel, z_in (List.mem_of_getElem? (i := 532) (by decide +kernel)), z_in (List.mem_of_getElem? (i := 10) (by decide +kernel)), by decide +kernel, by decide +kernel⟩
theorem IX5_firstFrom : Jvm.Cond.instanceMethod yX5_firstFrom ∈ lw_tbl := z_in (List.mem_of_getElem? (i := 530) (by decide +kernel))
theorem VX5_firstFrom : Jvm.Cond.selects "ShadowWard$LostSearch" yX5_firstFrom yX5_firstFrom ∈ lw_tbl := z_in (List.mem_of_getElem? (i := 531) (by decide +kernel))
def CX5_count_0 : List zEn := [(0, .aload_n 0, 1, 0, 0), (1, .invokevirtual 34, 4, 0, 85), (4, .aload_n 0, 5, 0, 0), (5, .getfield 30, 8, 0, 45), (8, .getfield 69, 11, 0, 36), (11, .aload_n 0, 12, 0, 0), (12, .getfield 12, 15, 0, 46), (15, .invokevirtual 51, 18, 0, 87), (18, .isub, 19, 0, 0), (19, .ireturn, 20, 0, 0)]
def MX5_count : zMI := (yX5_count, cX5_count, 1, (some .int), [(99999, CX5_count_0)], [])
theorem DX5_count_0 : CX5_count_0.all (zchk cX5_count) = true := by decide +kernel
theorem OX5_count : zMOK MX5_count := by
  intro q hq e he
  simp only [MX5_count, zFt, List.mem_cons, List.not_mem_nil, or_false] at hq
  rcases hq with rfl
  · exact List.all_eq_true.mp DX5_count_0 e he
theorem KX5_count : zMK MX5_count := ⟨OX5_count, by decide +kernel, z_in (List.mem_of_getElem? (i := 1061) (by decide +kernel)), z_in (List.mem_of_getElem? (i := 10) (by decide +kernel)), by decide +kernel, by decide +kernel⟩
theorem IX5_count : Jvm.Cond.instanceMethod yX5_count ∈ lw_tbl := z_in (List.mem_of_getElem? (i := 1059) (by decide +kernel))
theorem VX5_count : Jvm.Cond.selects "ShadowWard$LostSearch" yX5_count yX5_count ∈ lw_tbl := z_in (List.mem_of_getElem? (i := 1060) (by decide +kernel))
def CX5_markFound_0 : List zEn := [(0, .aload_n 0, 1, 0, 0), (1, .getfield 12, 4, 0, 46), (4, .invokevirtual 73, 7, 0, 86), (7, .iconst 0, 8, 0, 0), (8, .istore_n 1, 9, 0, 0), (9, .iload_n 1, 10, 0, 0), (10, .aload_n 0, 11, 0, 0), (11, .getfield 30, 14, 0, 45), (14, .getfield 46, 17, 0, 30), (17, .invokevirtual 51, 20, 0, 87), (20, .if_icmp .ge 27, 23, 0, 47), (23, .aload_n 0, 24, 0, 0), (24, .getfield 30, 27, 0, 45), (27, .getfield 46, 30, 0, 30), (30, .iload_n 1, 31, 0, 0), (31, .invokevirtual 55, 34, 0, 88), (34, .checkcast 59, 37, 0, 20), (37, .iconst 0, 38, 0, 0), (38, .putfield 76, 41, 0, 121), (41, .iinc 1 1, 44, 1, 0), (44, .goto (-35), 47, 0, 9), (47, .iconst 0, 48, 0, 0), (48, .istore_n 1, 49, 0, 0), (49, .iload_n 1, 50, 0, 0), (50, .aload_n 0, 51, 0, 0), (51, .getfield 22, 54, 0, 43), (54, .getfield 78, 57, 0, 20), (57, .invokevirtual 51, 60, 0, 87), (60, .if_icmp .ge 27, 63, 0, 87), (63, .aload_n 0, 64, 0, 0)]
def CX5_markFound_1 : List zEn := [(64, .aload_n 0, 65, 0, 0), (65, .getfield 22, 68, 0, 43), (68, .getfield 78, 71, 0, 20), (71, .iload_n 1, 72, 0, 0), (72, .invokevirtual 55, 75, 0, 88), (75, .checkcast 83, 78, 0, 21), (78, .invokevirtual 85, 81, 0, 89), (81, .iinc 1 1, 84, 1, 0), (84, .goto (-35), 87, 0, 49), (87, .iconst 0, 88, 0, 0), (88, .istore_n 1, 89, 0, 0), (89, .iload_n 1, 90, 0, 0), (90, .aload_n 0, 91, 0, 0), (91, .getfield 26, 94, 0, 44), (94, .invokevirtual 89, 97, 0, 97), (97, .if_icmp .ge 69, 100, 0, 166), (100, .aload_n 0, 101, 0, 0), (101, .getfield 26, 104, 0, 44), (104, .getfield 94, 107, 0, 24), (107, .iload_n 1, 108, 0, 0), (108, .invokevirtual 55, 111, 0, 88), (111, .checkcast 96, 114, 0, 22), (114, .getfield 98, 117, 0, 105), (117, .astore_n 2, 118, 0, 0), (118, .iconst 0, 119, 0, 0), (119, .istore_n 3, 120, 0, 0), (120, .iload_n 3, 121, 0, 0), (121, .aload_n 2, 122, 0, 0), (122, .invokevirtual 51, 125, 0, 87), (125, .if_icmp .ge 35, 128, 0, 160)]
def CX5_markFound_2 : List zEn := [(128, .aload_n 2, 129, 0, 0), (129, .iload_n 3, 130, 0, 0), (130, .invokevirtual 55, 133, 0, 88), (133, .checkcast 101, 136, 0, 23), (136, .getfield 103, 139, 0, 109), (139, .ifCond .eq 15, 142, 0, 154), (142, .aload_n 0, 143, 0, 0), (143, .aload_n 2, 144, 0, 0), (144, .iload_n 3, 145, 0, 0), (145, .invokevirtual 55, 148, 0, 88), (148, .checkcast 83, 151, 0, 21), (151, .invokevirtual 85, 154, 0, 89), (154, .iinc 3 1, 157, 1, 0), (157, .goto (-37), 160, 0, 120), (160, .iinc 1 1, 163, 1, 0), (163, .goto (-74), 166, 0, 89), (166, .iconst 0, 167, 0, 0), (167, .istore_n 1, 168, 0, 0), (168, .iload_n 1, 169, 0, 0), (169, .aload_n 0, 170, 0, 0), (170, .getfield 30, 173, 0, 45), (173, .getfield 69, 176, 0, 36), (176, .if_icmp .ge 35, 179, 0, 211), (179, .iload_n 1, 180, 0, 0), (180, .aload_n 0, 181, 0, 0), (181, .getfield 12, 184, 0, 46), (184, .invokevirtual 51, 187, 0, 87), (187, .if_icmp .ge 24, 190, 0, 211), (190, .aload_n 0, 191, 0, 0), (191, .aload_n 0, 192, 0, 0)]
def CX5_markFound_3 : List zEn := [(192, .getfield 12, 195, 0, 46), (195, .iload_n 1, 196, 0, 0), (196, .invokevirtual 55, 199, 0, 88), (199, .checkcast 83, 202, 0, 21), (202, .invokevirtual 85, 205, 0, 89), (205, .iinc 1 1, 208, 1, 0), (208, .goto (-40), 211, 0, 168), (211, .return_, 212, 0, 0)]
def MX5_markFound : zMI := (yX5_markFound, cX5_markFound, 4, none, [(64, CX5_markFound_0), (128, CX5_markFound_1), (192, CX5_markFound_2), (99999, CX5_markFound_3)], [])
theorem DX5_markFound_0 : CX5_markFound_0.all (zchk cX5_markFound) = true := by decide +kernel
theorem DX5_markFound_1 : CX5_markFound_1.all (zchk cX5_markFound) = true := by decide +kernel
theorem DX5_markFound_2 : CX5_markFound_2.all (zchk cX5_markFound) = true := by decide +kernel
theorem DX5_markFound_3 : CX5_markFound_3.all (zchk cX5_markFound) = true := by decide +kernel
theorem OX5_markFound : zMOK MX5_markFound := by
  intro q hq e he
  simp only [MX5_markFound, zFt, List.mem_cons, List.not_mem_nil, or_false] at hq
  rcases hq with rfl | rfl | rfl | rfl
  · exact List.all_eq_true.mp DX5_markFound_0 e he
  · exact List.all_eq_true.mp DX5_markFound_1 e he
  · exact List.all_eq_true.mp DX5_markFound_2 e he
  · exact List.all_eq_true.mp DX5_markFound_3 e he
theorem KX5_markFound : zMK MX5_markFound := ⟨OX5_markFound, by decide +kernel, z_in (List.mem_of_getElem? (i := 536) (by decide +kernel)), z_in (List.mem_of_getElem? (i := 10) (by decide +kernel)), by decide +kernel, by decide +kernel⟩
theorem IX5_markFound : Jvm.Cond.instanceMethod yX5_markFound ∈ lw_tbl := z_in (List.mem_of_getElem? (i := 535) (by decide +kernel))
theorem VX5_markFound : Jvm.Cond.selects "ShadowWard$LostSearch" yX5_markFound yX5_markFound ∈ lw_tbl := List.mem_append_left _ (List.mem_of_getElem? (i := 8) (by decide +kernel))
def CX5_findFrom_0 : List zEn := [(0, .aload_n 1, 1, 0, 0), (1, .getfield 106, 4, 0, 78), (4, .istore_n 2, 5, 0, 0), (5, .iload_n 2, 6, 0, 0), (6, .iconst 4, 7, 4, 0), (7, .iadd, 8, 0, 0), (8, .aload_n 1, 9, 0, 0), (9, .getfield 109, 12, 0, 92), (12, .if_icmp .gt 40, 15, 0, 52), (15, .aload_n 0, 16, 0, 0), (16, .iload_n 2, 17, 0, 0), (17, .invokevirtual 112, 20, 0, 90), (20, .astore_n 3, 21, 0, 0), (21, .aload_n 3, 22, 0, 0), (22, .ifnull 24, 25, 0, 46), (25, .aload_n 3, 26, 0, 0), (26, .getfield 76, 29, 0, 121), (29, .ifCond .ne 17, 32, 0, 46), (32, .aload_n 3, 33, 0, 0), (33, .iconst 1, 34, 1, 0), (34, .putfield 76, 37, 0, 121), (37, .aload_n 0, 38, 0, 0), (38, .getfield 12, 41, 0, 46), (41, .aload_n 3, 42, 0, 0), (42, .invokevirtual 116, 45, 0, 96), (45, .pop, 46, 0, 0), (46, .iinc 2 4, 49, 4, 0), (49, .goto (-44), 52, 0, 5), (52, .return_, 53, 0, 0)]
def MX5_findFrom : zMI := (yX5_findFrom, cX5_findFrom, 4, none, [(99999, CX5_findFrom_0)], [])
theorem DX5_findFrom_0 : CX5_findFrom_0.all (zchk cX5_findFrom) = true := by decide +kernel
theorem OX5_findFrom : zMOK MX5_findFrom := by
  intro q hq e he
  simp only [MX5_findFrom, zFt, List.mem_cons, List.not_mem_nil, or_false] at hq
  rcases hq with rfl
  · exact List.all_eq_true.mp DX5_findFrom_0 e he
theorem KX5_findFrom : zMK MX5_findFrom := ⟨OX5_findFrom, by decide +kernel, z_in (List.mem_of_getElem? (i := 548) (by decide +kernel)), z_in (List.mem_of_getElem? (i := 10) (by decide +kernel)), by decide +kernel, by decide +kernel⟩
theorem IX5_findFrom : Jvm.Cond.instanceMethod yX5_findFrom ∈ lw_tbl := z_in (List.mem_of_getElem? (i := 547) (by decide +kernel))
theorem VX5_findFrom : Jvm.Cond.selects "ShadowWard$LostSearch" yX5_findFrom yX5_findFrom ∈ lw_tbl := List.mem_append_left _ (List.mem_of_getElem? (i := 9) (by decide +kernel))
def CX5_markLedToByLost_0 : List zEn := [(0, .iconst 0, 1, 0, 0), (1, .istore_n 1, 2, 0, 0), (2, .iload_n 1, 3, 0, 0), (3, .aload_n 0, 4, 0, 0), (4, .getfield 30, 7, 0, 45), (7, .getfield 46, 10, 0, 30), (10, .invokevirtual 51, 13, 0, 87), (13, .if_icmp .ge 27, 16, 0, 40), (16, .aload_n 0, 17, 0, 0), (17, .getfield 30, 20, 0, 45), (20, .getfield 46, 23, 0, 30), (23, .iload_n 1, 24, 0, 0), (24, .invokevirtual 55, 27, 0, 88), (27, .checkcast 59, 30, 0, 20), (30, .iconst 0, 31, 0, 0), (31, .putfield 65, 34, 0, 122), (34, .iinc 1 1, 37, 1, 0), (37, .goto (-35), 40, 0, 2), (40, .iconst 0, 41, 0, 0), (41, .istore_n 1, 42, 0, 0), (42, .iload_n 1, 43, 0, 0), (43, .aload_n 0, 44, 0, 0), (44, .getfield 30, 47, 0, 45), (47, .getfield 46, 50, 0, 30), (50, .invokevirtual 51, 53, 0, 87), (53, .if_icmp .ge 36, 56, 0, 89), (56, .aload_n 0, 57, 0, 0), (57, .getfield 30, 60, 0, 45), (60, .getfield 46, 63, 0, 30), (63, .iload_n 1, 64, 0, 0)]
def CX5_markLedToByLost_1 : List zEn := [(64, .invokevirtual 55, 67, 0, 88), (67, .checkcast 59, 70, 0, 20), (70, .astore_n 2, 71, 0, 0), (71, .aload_n 2, 72, 0, 0), (72, .invokevirtual 61, 75, 0, 99), (75, .ifCond .eq 8, 78, 0, 83), (78, .aload_n 0, 79, 0, 0), (79, .aload_n 2, 80, 0, 0), (80, .invokevirtual 120, 83, 0, 100), (83, .iinc 1 1, 86, 1, 0), (86, .goto (-44), 89, 0, 42), (89, .return_, 90, 0, 0)]
def MX5_markLedToByLost : zMI := (yX5_markLedToByLost, cX5_markLedToByLost, 3, none, [(64, CX5_markLedToByLost_0), (99999, CX5_markLedToByLost_1)], [])
theorem DX5_markLedToByLost_0 : CX5_markLedToByLost_0.all (zchk cX5_markLedToByLost) = true := by decide +kernel
theorem DX5_markLedToByLost_1 : CX5_markLedToByLost_1.all (zchk cX5_markLedToByLost) = true := by decide +kernel
theorem OX5_markLedToByLost : zMOK MX5_markLedToByLost := by
  intro q hq e he
  simp only [MX5_markLedToByLost, zFt, List.mem_cons, List.not_mem_nil, or_false] at hq
  rcases hq with rfl | rfl
  · exact List.all_eq_true.mp DX5_markLedToByLost_0 e he
  · exact List.all_eq_true.mp DX5_markLedToByLost_1 e he
theorem KX5_markLedToByLost : zMK MX5_markLedToByLost := ⟨OX5_markLedToByLost, by decide +kernel, z_in (List.mem_of_getElem? (i := 579) (by decide +kernel)), z_in (List.mem_of_getElem? (i := 10) (by decide +kernel)), by decide +kernel, by decide +kernel⟩
theorem IX5_markLedToByLost : Jvm.Cond.instanceMethod yX5_markLedToByLost ∈ lw_tbl := z_in (List.mem_of_getElem? (i := 578) (by decide +kernel))
theorem VX5_markLedToByLost : Jvm.Cond.selects "ShadowWard$LostSearch" yX5_markLedToByLost yX5_markLedToByLost ∈ lw_tbl := List.mem_append_left _ (List.mem_of_getElem? (i := 12) (by decide +kernel))
def CX5_markLedToFrom_0 : List zEn := [(0, .aload_n 1, 1, 0, 0), (1, .getfield 124, 4, 0, 82), (4, .istore_n 2, 5, 0, 0), (5, .iload_n 2, 6, 0, 0), (6, .iconst 4, 7, 4, 0), (7, .iadd, 8, 0, 0), (8, .aload_n 1, 9, 0, 0), (9, .getfield 125, 12, 0, 93), (12, .if_icmp .gt 29, 15, 0, 41), (15, .aload_n 0, 16, 0, 0), (16, .iload_n 2, 17, 0, 0), (17, .invokevirtual 112, 20, 0, 90), (20, .astore_n 3, 21, 0, 0), (21, .aload_n 3, 22, 0, 0), (22, .ifnull 13, 25, 0, 35), (25, .aload_n 3, 26, 0, 0), (26, .aload_n 1, 27, 0, 0), (27, .if_acmp .eq 8, 30, 0, 35), (30, .aload_n 3, 31, 0, 0), (31, .iconst 1, 32, 1, 0), (32, .putfield 65, 35, 0, 122), (35, .iinc 2 4, 38, 4, 0), (38, .goto (-33), 41, 0, 5), (41, .return_, 42, 0, 0)]
def MX5_markLedToFrom : zMI := (yX5_markLedToFrom, cX5_markLedToFrom, 4, none, [(99999, CX5_markLedToFrom_0)], [])
theorem DX5_markLedToFrom_0 : CX5_markLedToFrom_0.all (zchk cX5_markLedToFrom) = true := by decide +kernel
theorem OX5_markLedToFrom : zMOK MX5_markLedToFrom := by
  intro q hq e he
  simp only [MX5_markLedToFrom, zFt, List.mem_cons, List.not_mem_nil, or_false] at hq
  rcases hq with rfl
  · exact List.all_eq_true.mp DX5_markLedToFrom_0 e he
theorem KX5_markLedToFrom : zMK MX5_markLedToFrom := ⟨OX5_markLedToFrom, by decide +kernel, z_in (List.mem_of_getElem? (i := 587) (by decide +kernel)), z_in (List.mem_of_getElem? (i := 10) (by decide +kernel)), by decide +kernel, by decide +kernel⟩
theorem IX5_markLedToFrom : Jvm.Cond.instanceMethod yX5_markLedToFrom ∈ lw_tbl := z_in (List.mem_of_getElem? (i := 586) (by decide +kernel))
theorem VX5_markLedToFrom : Jvm.Cond.selects "ShadowWard$LostSearch" yX5_markLedToFrom yX5_markLedToFrom ∈ lw_tbl := List.mem_append_left _ (List.mem_of_getElem? (i := 13) (by decide +kernel))
def CX5_ledToFrom_0 : List zEn := [(0, .aload_n 0, 1, 0, 0), (1, .getfield 30, 4, 0, 45), (4, .aload_n 0, 5, 0, 0), (5, .getfield 18, 8, 0, 42), (8, .iload_n 1, 9, 0, 0), (9, .iconst 4, 10, 4, 0), (10, .invokevirtual 126, 13, 0, 91), (13, .l2i, 14, 0, 0), (14, .invokevirtual 132, 17, 0, 93), (17, .areturn, 18, 0, 0)]
def MX5_ledToFrom : zMI := (yX5_ledToFrom, cX5_ledToFrom, 2, (some (.object "ShadowWard$Block")), [(99999, CX5_ledToFrom_0)], [])
theorem DX5_ledToFrom_0 : CX5_ledToFrom_0.all (zchk cX5_ledToFrom) = true := by decide +kernel
theorem OX5_ledToFrom : zMOK MX5_ledToFrom := by
  intro q hq e he
  simp only [MX5_ledToFrom, zFt, List.mem_cons, List.not_mem_nil, or_false] at hq
  rcases hq with rfl
  · exact List.all_eq_true.mp DX5_ledToFrom_0 e he
theorem KX5_ledToFrom : zMK MX5_ledToFrom := ⟨OX5_ledToFrom, by decide +kernel, z_in (List.mem_of_getElem? (i := 552) (by decide +kernel)), z_in (List.mem_of_getElem? (i := 10) (by decide +kernel)), by decide +kernel, by decide +kernel⟩
theorem IX5_ledToFrom : Jvm.Cond.instanceMethod yX5_ledToFrom ∈ lw_tbl := z_in (List.mem_of_getElem? (i := 551) (by decide +kernel))
theorem VX5_ledToFrom : Jvm.Cond.selects "ShadowWard$LostSearch" yX5_ledToFrom yX5_ledToFrom ∈ lw_tbl := List.mem_append_left _ (List.mem_of_getElem? (i := 10) (by decide +kernel))
def CX6_init_0 : List zEn := [(0, .aload_n 0, 1, 0, 0), (1, .invokespecial 3, 4, 0, 3), (4, .aload_n 0, 5, 0, 0), (5, .iload_n 1, 6, 0, 0), (6, .sipush 1024, 9, 1024, 0), (9, .if_icmp .lt 21, 12, 0, 30), (12, .iload_n 1, 13, 0, 0), (13, .sipush 8192, 16, 8192, 0), (16, .if_icmp .gt 14, 19, 0, 30), (19, .iload_n 1, 20, 0, 0), (20, .bipush 64, 22, 64, 0), (22, .irem, 23, 0, 0), (23, .ifCond .ne 7, 26, 0, 30), (26, .iload_n 1, 27, 0, 0), (27, .goto 6, 30, 0, 33), (30, .sipush 4096, 33, 4096, 0), (33, .putfield 9, 36, 0, 0), (36, .aload_n 0, 37, 0, 0), (37, .aload_n 0, 38, 0, 0), (38, .getfield 9, 41, 0, 0), (41, .bipush 8, 43, 8, 0), (43, .idiv, 44, 0, 0), (44, .putfield 15, 47, 0, 3), (47, .aload_n 0, 48, 0, 0), (48, .aload_n 0, 49, 0, 0), (49, .getfield 9, 52, 0, 0), (52, .iconst 4, 53, 4, 0), (53, .idiv, 54, 0, 0), (54, .putfield 18, 57, 0, 7), (57, .aload_n 0, 58, 0, 0)]
def CX6_init_1 : List zEn := [(58, .aload_n 0, 59, 0, 0), (59, .getfield 9, 62, 0, 0), (62, .newarray .int, 64, 0, 0), (64, .putfield 21, 67, 0, 11), (67, .aload_n 0, 68, 0, 0), (68, .aload_n 0, 69, 0, 0), (69, .getfield 9, 72, 0, 0), (72, .bipush 8, 74, 8, 0), (74, .idiv, 75, 0, 0), (75, .newarray .int, 77, 0, 0), (77, .putfield 25, 80, 0, 12), (80, .aload_n 0, 81, 0, 0), (81, .iconst 0, 82, 0, 0), (82, .aload_n 0, 83, 0, 0), (83, .getfield 15, 86, 0, 3), (86, .sipush 249, 89, 249, 0), (89, .invokevirtual 28, 92, 0, 4), (92, .aload_n 0, 93, 0, 0), (93, .aload_n 0, 94, 0, 0), (94, .getfield 18, 97, 0, 7), (97, .aload_n 0, 98, 0, 0), (98, .getfield 9, 101, 0, 0), (101, .aload_n 0, 102, 0, 0), (102, .getfield 18, 105, 0, 7), (105, .isub, 106, 0, 0), (106, .sipush 250, 109, 250, 0), (109, .invokevirtual 28, 112, 0, 4), (112, .return_, 113, 0, 0)]
def MX6_init : zMI := (yX6_init, cX6_init, 2, none, [(58, CX6_init_0), (99999, CX6_init_1)], [])
theorem DX6_init_0 : CX6_init_0.all (zchk cX6_init) = true := by decide +kernel
theorem DX6_init_1 : CX6_init_1.all (zchk cX6_init) = true := by decide +kernel
theorem OX6_init : zMOK MX6_init := by
  intro q hq e he
  simp only [MX6_init, zFt, List.mem_cons, List.not_mem_nil, or_false] at hq
  rcases hq with rfl | rfl
  · exact List.all_eq_true.mp DX6_init_0 e he
  · exact List.all_eq_true.mp DX6_init_1 e he
theorem KX6_init : zMK MX6_init := ⟨OX6_init, by decide +kernel, z_in (List.mem_of_getElem? (i := 41) (by decide +kernel)), z_in (List.mem_of_getElem? (i := 2) (by decide +kernel)), by decide +kernel, by decide +kernel⟩
theorem IX6_init : Jvm.Cond.instanceMethod yX6_init ∈ lw_tbl := z_in (List.mem_of_getElem? (i := 40) (by decide +kernel))
def CX6_isAddress_0 : List zEn := [(0, .iload_n 1, 1, 0, 0), (1, .ifCond .lt 15, 4, 0, 16), (4, .iload_n 1, 5, 0, 0), (5, .aload_n 0, 6, 0, 0), (6, .getfield 9, 9, 0, 0), (9, .if_icmp .ge 7, 12, 0, 16), (12, .iconst 1, 13, 1, 0), (13, .goto 4, 16, 0, 17), (16, .iconst 0, 17, 0, 0), (17, .ireturn, 18, 0, 0)]
def MX6_isAddress : zMI := (yX6_isAddress, cX6_isAddress, 2, (some .boolean), [(99999, CX6_isAddress_0)], [])
theorem DX6_isAddress_0 : CX6_isAddress_0.all (zchk cX6_isAddress) = true := by decide +kernel
theorem OX6_isAddress : zMOK MX6_isAddress := by
  intro q hq e he
  simp only [MX6_isAddress, zFt, List.mem_cons, List.not_mem_nil, or_false] at hq
  rcases hq with rfl
  · exact List.all_eq_true.mp DX6_isAddress_0 e he
theorem KX6_isAddress : zMK MX6_isAddress := ⟨OX6_isAddress, by decide +kernel, z_in (List.mem_of_getElem? (i := 246) (by decide +kernel)), z_in (List.mem_of_getElem? (i := 2) (by decide +kernel)), by decide +kernel, by decide +kernel⟩
theorem IX6_isAddress : Jvm.Cond.instanceMethod yX6_isAddress ∈ lw_tbl := z_in (List.mem_of_getElem? (i := 244) (by decide +kernel))
theorem VX6_isAddress : Jvm.Cond.selects "ShadowWard$Memory" yX6_isAddress yX6_isAddress ∈ lw_tbl := z_in (List.mem_of_getElem? (i := 245) (by decide +kernel))
def CX6_holds_0 : List zEn := [(0, .iload_n 2, 1, 0, 0), (1, .ifCond .eq 29, 4, 0, 30), (4, .iload_n 2, 5, 0, 0), (5, .ifCond .le 29, 8, 0, 34), (8, .iload_n 2, 9, 0, 0), (9, .aload_n 0, 10, 0, 0), (10, .getfield 9, 13, 0, 0), (13, .if_icmp .gt 21, 16, 0, 34), (16, .iload_n 1, 17, 0, 0), (17, .ifCond .lt 17, 20, 0, 34), (20, .iload_n 1, 21, 0, 0), (21, .aload_n 0, 22, 0, 0), (22, .getfield 9, 25, 0, 0), (25, .iload_n 2, 26, 0, 0), (26, .isub, 27, 0, 0), (27, .if_icmp .gt 7, 30, 0, 34), (30, .iconst 1, 31, 1, 0), (31, .goto 4, 34, 0, 35), (34, .iconst 0, 35, 0, 0), (35, .ireturn, 36, 0, 0)]
def MX6_holds : zMI := (yX6_holds, cX6_holds, 3, (some .boolean), [(99999, CX6_holds_0)], [])
theorem DX6_holds_0 : CX6_holds_0.all (zchk cX6_holds) = true := by decide +kernel
theorem OX6_holds : zMOK MX6_holds := by
  intro q hq e he
  simp only [MX6_holds, zFt, List.mem_cons, List.not_mem_nil, or_false] at hq
  rcases hq with rfl
  · exact List.all_eq_true.mp DX6_holds_0 e he
theorem KX6_holds : zMK MX6_holds := ⟨OX6_holds, by decide +kernel, z_in (List.mem_of_getElem? (i := 523) (by decide +kernel)), z_in (List.mem_of_getElem? (i := 2) (by decide +kernel)), by decide +kernel, by decide +kernel⟩
theorem IX6_holds : Jvm.Cond.instanceMethod yX6_holds ∈ lw_tbl := z_in (List.mem_of_getElem? (i := 521) (by decide +kernel))
theorem VX6_holds : Jvm.Cond.selects "ShadowWard$Memory" yX6_holds yX6_holds ∈ lw_tbl := z_in (List.mem_of_getElem? (i := 522) (by decide +kernel))
def CX6_granules_0 : List zEn := [(0, .aload_n 0, 1, 0, 0), (1, .getfield 25, 4, 0, 12), (4, .arraylength, 5, 0, 0), (5, .ireturn, 6, 0, 0)]
def MX6_granules : zMI := (yX6_granules, cX6_granules, 1, (some .int), [(99999, CX6_granules_0)], [])
theorem DX6_granules_0 : CX6_granules_0.all (zchk cX6_granules) = true := by decide +kernel
theorem OX6_granules : zMOK MX6_granules := by
  intro q hq e he
  simp only [MX6_granules, zFt, List.mem_cons, List.not_mem_nil, or_false] at hq
  rcases hq with rfl
  · exact List.all_eq_true.mp DX6_granules_0 e he
theorem KX6_granules : zMK MX6_granules := ⟨OX6_granules, by decide +kernel, z_in (List.mem_of_getElem? (i := 1031) (by decide +kernel)), z_in (List.mem_of_getElem? (i := 2) (by decide +kernel)), by decide +kernel, by decide +kernel⟩
theorem IX6_granules : Jvm.Cond.instanceMethod yX6_granules ∈ lw_tbl := z_in (List.mem_of_getElem? (i := 1029) (by decide +kernel))
theorem VX6_granules : Jvm.Cond.selects "ShadowWard$Memory" yX6_granules yX6_granules ∈ lw_tbl := z_in (List.mem_of_getElem? (i := 1030) (by decide +kernel))
def CX6_shadowOf_0 : List zEn := [(0, .iload_n 1, 1, 0, 0), (1, .ifCond .lt 21, 4, 0, 22), (4, .iload_n 1, 5, 0, 0), (5, .aload_n 0, 6, 0, 0), (6, .getfield 25, 9, 0, 12), (9, .arraylength, 10, 0, 0), (10, .if_icmp .ge 12, 13, 0, 22), (13, .aload_n 0, 14, 0, 0), (14, .getfield 25, 17, 0, 12), (17, .iload_n 1, 18, 0, 0), (18, .iaload, 19, 0, 0), (19, .goto 4, 22, 0, 23), (22, .iconst 0, 23, 0, 0), (23, .ireturn, 24, 0, 0)]
def MX6_shadowOf : zMI := (yX6_shadowOf, cX6_shadowOf, 2, (some .int), [(99999, CX6_shadowOf_0)], [])
theorem DX6_shadowOf_0 : CX6_shadowOf_0.all (zchk cX6_shadowOf) = true := by decide +kernel
theorem OX6_shadowOf : zMOK MX6_shadowOf := by
  intro q hq e he
  simp only [MX6_shadowOf, zFt, List.mem_cons, List.not_mem_nil, or_false] at hq
  rcases hq with rfl
  · exact List.all_eq_true.mp DX6_shadowOf_0 e he
theorem KX6_shadowOf : zMK MX6_shadowOf := ⟨OX6_shadowOf, by decide +kernel, z_in (List.mem_of_getElem? (i := 250) (by decide +kernel)), z_in (List.mem_of_getElem? (i := 2) (by decide +kernel)), by decide +kernel, by decide +kernel⟩
theorem IX6_shadowOf : Jvm.Cond.instanceMethod yX6_shadowOf ∈ lw_tbl := z_in (List.mem_of_getElem? (i := 248) (by decide +kernel))
theorem VX6_shadowOf : Jvm.Cond.selects "ShadowWard$Memory" yX6_shadowOf yX6_shadowOf ∈ lw_tbl := z_in (List.mem_of_getElem? (i := 249) (by decide +kernel))
def CX6_byteAt_0 : List zEn := [(0, .iload_n 1, 1, 0, 0), (1, .ifCond .lt 21, 4, 0, 22), (4, .iload_n 1, 5, 0, 0), (5, .aload_n 0, 6, 0, 0), (6, .getfield 21, 9, 0, 11), (9, .arraylength, 10, 0, 0), (10, .if_icmp .ge 12, 13, 0, 22), (13, .aload_n 0, 14, 0, 0), (14, .getfield 21, 17, 0, 11), (17, .iload_n 1, 18, 0, 0), (18, .iaload, 19, 0, 0), (19, .goto 4, 22, 0, 23), (22, .iconst 0, 23, 0, 0), (23, .ireturn, 24, 0, 0)]
def MX6_byteAt : zMI := (yX6_byteAt, cX6_byteAt, 2, (some .int), [(99999, CX6_byteAt_0)], [])
theorem DX6_byteAt_0 : CX6_byteAt_0.all (zchk cX6_byteAt) = true := by decide +kernel
theorem OX6_byteAt : zMOK MX6_byteAt := by
  intro q hq e he
  simp only [MX6_byteAt, zFt, List.mem_cons, List.not_mem_nil, or_false] at hq
  rcases hq with rfl
  · exact List.all_eq_true.mp DX6_byteAt_0 e he
theorem KX6_byteAt : zMK MX6_byteAt := ⟨OX6_byteAt, by decide +kernel, z_in (List.mem_of_getElem? (i := 428) (by decide +kernel)), z_in (List.mem_of_getElem? (i := 2) (by decide +kernel)), by decide +kernel, by decide +kernel⟩
theorem IX6_byteAt : Jvm.Cond.instanceMethod yX6_byteAt ∈ lw_tbl := z_in (List.mem_of_getElem? (i := 426) (by decide +kernel))
theorem VX6_byteAt : Jvm.Cond.selects "ShadowWard$Memory" yX6_byteAt yX6_byteAt ∈ lw_tbl := z_in (List.mem_of_getElem? (i := 427) (by decide +kernel))
def CX6_paint_0 : List zEn := [(0, .aload_n 0, 1, 0, 0), (1, .getfield 25, 4, 0, 12), (4, .arraylength, 5, 0, 0), (5, .iload_n 1, 6, 0, 0), (6, .iload_n 2, 7, 0, 0), (7, .iadd, 8, 0, 0), (8, .bipush 8, 10, 8, 0), (10, .invokestatic 32, 13, 0, 0), (13, .bipush 8, 15, 8, 0), (15, .idiv, 16, 0, 0), (16, .invokestatic 36, 19, 0, 5), (19, .istore 4, 21, 0, 0), (21, .iconst 0, 22, 0, 0), (22, .iload_n 1, 23, 0, 0), (23, .bipush 8, 25, 8, 0), (25, .idiv, 26, 0, 0), (26, .invokestatic 41, 29, 0, 6), (29, .istore 5, 31, 0, 0), (31, .iload 5, 33, 0, 0), (33, .iload 4, 35, 0, 0), (35, .if_icmp .ge 17, 38, 0, 52), (38, .aload_n 0, 39, 0, 0), (39, .getfield 25, 42, 0, 12), (42, .iload 5, 44, 0, 0), (44, .iload_n 3, 45, 0, 0), (45, .iastore, 46, 0, 0), (46, .iinc 5 1, 49, 1, 0), (49, .goto (-18), 52, 0, 31), (52, .return_, 53, 0, 0)]
def MX6_paint : zMI := (yX6_paint, cX6_paint, 6, none, [(99999, CX6_paint_0)], [])
theorem DX6_paint_0 : CX6_paint_0.all (zchk cX6_paint) = true := by decide +kernel
theorem OX6_paint : zMOK MX6_paint := by
  intro q hq e he
  simp only [MX6_paint, zFt, List.mem_cons, List.not_mem_nil, or_false] at hq
  rcases hq with rfl
  · exact List.all_eq_true.mp DX6_paint_0 e he
theorem KX6_paint : zMK MX6_paint := ⟨OX6_paint, by decide +kernel, z_in (List.mem_of_getElem? (i := 46) (by decide +kernel)), z_in (List.mem_of_getElem? (i := 2) (by decide +kernel)), by decide +kernel, by decide +kernel⟩
theorem IX6_paint : Jvm.Cond.instanceMethod yX6_paint ∈ lw_tbl := z_in (List.mem_of_getElem? (i := 44) (by decide +kernel))
theorem VX6_paint : Jvm.Cond.selects "ShadowWard$Memory" yX6_paint yX6_paint ∈ lw_tbl := z_in (List.mem_of_getElem? (i := 45) (by decide +kernel))
def CX6_open_0 : List zEn := [(0, .aload_n 0, 1, 0, 0), (1, .iload_n 1, 2, 0, 0), (2, .iload_n 2, 3, 0, 0), (3, .iconst 0, 4, 0, 0), (4, .invokevirtual 28, 7, 0, 4), (7, .iload_n 2, 8, 0, 0), (8, .bipush 8, 10, 8, 0), (10, .irem, 11, 0, 0), (11, .istore_n 3, 12, 0, 0), (12, .iload_n 3, 13, 0, 0), (13, .ifCond .eq 14, 16, 0, 27), (16, .aload_n 0, 17, 0, 0), (17, .iload_n 1, 18, 0, 0), (18, .iload_n 2, 19, 0, 0), (19, .iadd, 20, 0, 0), (20, .iload_n 3, 21, 0, 0), (21, .isub, 22, 0, 0), (22, .iload_n 3, 23, 0, 0), (23, .iload_n 3, 24, 0, 0), (24, .invokevirtual 28, 27, 0, 4), (27, .return_, 28, 0, 0)]
def MX6_open : zMI := (yX6_open, cX6_open, 4, none, [(99999, CX6_open_0)], [])
theorem DX6_open_0 : CX6_open_0.all (zchk cX6_open) = true := by decide +kernel
theorem OX6_open : zMOK MX6_open := by
  intro q hq e he
  simp only [MX6_open, zFt, List.mem_cons, List.not_mem_nil, or_false] at hq
  rcases hq with rfl
  · exact List.all_eq_true.mp DX6_open_0 e he
theorem KX6_open : zMK MX6_open := ⟨OX6_open, by decide +kernel, z_in (List.mem_of_getElem? (i := 670) (by decide +kernel)), z_in (List.mem_of_getElem? (i := 2) (by decide +kernel)), by decide +kernel, by decide +kernel⟩
theorem IX6_open : Jvm.Cond.instanceMethod yX6_open ∈ lw_tbl := z_in (List.mem_of_getElem? (i := 668) (by decide +kernel))
theorem VX6_open : Jvm.Cond.selects "ShadowWard$Memory" yX6_open yX6_open ∈ lw_tbl := z_in (List.mem_of_getElem? (i := 669) (by decide +kernel))
def CX6_exchangeWhole_0 : List zEn := [(0, .aload_n 0, 1, 0, 0), (1, .iload_n 1, 2, 0, 0), (2, .iload_n 2, 3, 0, 0), (3, .invokevirtual 44, 6, 0, 81), (6, .ifCond .eq 7, 9, 0, 13), (9, .iload_n 2, 10, 0, 0), (10, .ifCond .ne 5, 13, 0, 15), (13, .iconst 0, 14, 0, 0), (14, .ireturn, 15, 0, 0), (15, .iconst 0, 16, 0, 0), (16, .istore 5, 18, 0, 0), (18, .iload_n 1, 19, 0, 0), (19, .iload_n 2, 20, 0, 0), (20, .iadd, 21, 0, 0), (21, .bipush 8, 23, 8, 0), (23, .idiv, 24, 0, 0), (24, .istore 6, 26, 0, 0), (26, .iload_n 1, 27, 0, 0), (27, .bipush 8, 29, 8, 0), (29, .invokestatic 32, 32, 0, 0), (32, .bipush 8, 34, 8, 0), (34, .idiv, 35, 0, 0), (35, .istore 7, 37, 0, 0), (37, .iload 7, 39, 0, 0), (39, .iload 6, 41, 0, 0), (41, .if_icmp .ge 42, 44, 0, 83), (44, .iload 7, 46, 0, 0), (46, .aload_n 0, 47, 0, 0), (47, .getfield 25, 50, 0, 12), (50, .arraylength, 51, 0, 0)]
def CX6_exchangeWhole_1 : List zEn := [(51, .if_icmp .ge 32, 54, 0, 83), (54, .aload_n 0, 55, 0, 0), (55, .getfield 25, 58, 0, 12), (58, .iload 7, 60, 0, 0), (60, .iaload, 61, 0, 0), (61, .iload_n 3, 62, 0, 0), (62, .if_icmp .ne 15, 65, 0, 77), (65, .aload_n 0, 66, 0, 0), (66, .getfield 25, 69, 0, 12), (69, .iload 7, 71, 0, 0), (71, .iload 4, 73, 0, 0), (73, .iastore, 74, 0, 0), (74, .iinc 5 1, 77, 1, 0), (77, .iinc 7 1, 80, 1, 0), (80, .goto (-43), 83, 0, 37), (83, .iload 5, 85, 0, 0), (85, .ireturn, 86, 0, 0)]
def MX6_exchangeWhole : zMI := (yX6_exchangeWhole, cX6_exchangeWhole, 8, (some .int), [(51, CX6_exchangeWhole_0), (99999, CX6_exchangeWhole_1)], [])
theorem DX6_exchangeWhole_0 : CX6_exchangeWhole_0.all (zchk cX6_exchangeWhole) = true := by decide +kernel
theorem DX6_exchangeWhole_1 : CX6_exchangeWhole_1.all (zchk cX6_exchangeWhole) = true := by decide +kernel
theorem OX6_exchangeWhole : zMOK MX6_exchangeWhole := by
  intro q hq e he
  simp only [MX6_exchangeWhole, zFt, List.mem_cons, List.not_mem_nil, or_false] at hq
  rcases hq with rfl | rfl
  · exact List.all_eq_true.mp DX6_exchangeWhole_0 e he
  · exact List.all_eq_true.mp DX6_exchangeWhole_1 e he
theorem KX6_exchangeWhole : zMK MX6_exchangeWhole := ⟨OX6_exchangeWhole, by decide +kernel, z_in (List.mem_of_getElem? (i := 990) (by decide +kernel)), z_in (List.mem_of_getElem? (i := 2) (by decide +kernel)), by decide +kernel, by decide +kernel⟩
theorem IX6_exchangeWhole : Jvm.Cond.instanceMethod yX6_exchangeWhole ∈ lw_tbl := z_in (List.mem_of_getElem? (i := 988) (by decide +kernel))
theorem VX6_exchangeWhole : Jvm.Cond.selects "ShadowWard$Memory" yX6_exchangeWhole yX6_exchangeWhole ∈ lw_tbl := z_in (List.mem_of_getElem? (i := 989) (by decide +kernel))
def CX6_goodBytes_0 : List zEn := [(0, .iload_n 1, 1, 0, 0), (1, .ifCond .ne 6, 4, 0, 7), (4, .bipush 8, 6, 8, 0), (6, .ireturn, 7, 0, 0), (7, .iload_n 1, 8, 0, 0), (8, .bipush 8, 10, 8, 0), (10, .if_icmp .ge 7, 13, 0, 17), (13, .iload_n 1, 14, 0, 0), (14, .goto 4, 17, 0, 18), (17, .iconst 0, 18, 0, 0), (18, .ireturn, 19, 0, 0)]
def MX6_goodBytes : zMI := (yX6_goodBytes, cX6_goodBytes, 2, (some .int), [(99999, CX6_goodBytes_0)], [])
theorem DX6_goodBytes_0 : CX6_goodBytes_0.all (zchk cX6_goodBytes) = true := by decide +kernel
theorem OX6_goodBytes : zMOK MX6_goodBytes := by
  intro q hq e he
  simp only [MX6_goodBytes, zFt, List.mem_cons, List.not_mem_nil, or_false] at hq
  rcases hq with rfl
  · exact List.all_eq_true.mp DX6_goodBytes_0 e he
theorem KX6_goodBytes : zMK MX6_goodBytes := ⟨OX6_goodBytes, by decide +kernel, z_in (List.mem_of_getElem? (i := 254) (by decide +kernel)), z_in (List.mem_of_getElem? (i := 2) (by decide +kernel)), by decide +kernel, by decide +kernel⟩
theorem IX6_goodBytes : Jvm.Cond.instanceMethod yX6_goodBytes ∈ lw_tbl := z_in (List.mem_of_getElem? (i := 253) (by decide +kernel))
theorem VX6_goodBytes : Jvm.Cond.selects "ShadowWard$Memory" yX6_goodBytes yX6_goodBytes ∈ lw_tbl := List.mem_append_left _ (List.mem_of_getElem? (i := 1) (by decide +kernel))
def CX6_goodAddresses_0 : List zEn := [(0, .iconst 0, 1, 0, 0), (1, .istore_n 1, 2, 0, 0), (2, .iconst 0, 3, 0, 0), (3, .istore_n 2, 4, 0, 0), (4, .iload_n 2, 5, 0, 0), (5, .aload_n 0, 6, 0, 0), (6, .getfield 25, 9, 0, 12), (9, .arraylength, 10, 0, 0), (10, .if_icmp .ge 22, 13, 0, 32), (13, .iload_n 1, 14, 0, 0), (14, .aload_n 0, 15, 0, 0), (15, .aload_n 0, 16, 0, 0), (16, .getfield 25, 19, 0, 12), (19, .iload_n 2, 20, 0, 0), (20, .iaload, 21, 0, 0), (21, .invokevirtual 48, 24, 0, 29), (24, .iadd, 25, 0, 0), (25, .istore_n 1, 26, 0, 0), (26, .iinc 2 1, 29, 1, 0), (29, .goto (-25), 32, 0, 4), (32, .iload_n 1, 33, 0, 0), (33, .ireturn, 34, 0, 0)]
def MX6_goodAddresses : zMI := (yX6_goodAddresses, cX6_goodAddresses, 3, (some .int), [(99999, CX6_goodAddresses_0)], [])
theorem DX6_goodAddresses_0 : CX6_goodAddresses_0.all (zchk cX6_goodAddresses) = true := by decide +kernel
theorem OX6_goodAddresses : zMOK MX6_goodAddresses := by
  intro q hq e he
  simp only [MX6_goodAddresses, zFt, List.mem_cons, List.not_mem_nil, or_false] at hq
  rcases hq with rfl
  · exact List.all_eq_true.mp DX6_goodAddresses_0 e he
theorem KX6_goodAddresses : zMK MX6_goodAddresses := ⟨OX6_goodAddresses, by decide +kernel, z_in (List.mem_of_getElem? (i := 1057) (by decide +kernel)), z_in (List.mem_of_getElem? (i := 2) (by decide +kernel)), by decide +kernel, by decide +kernel⟩
theorem IX6_goodAddresses : Jvm.Cond.instanceMethod yX6_goodAddresses ∈ lw_tbl := z_in (List.mem_of_getElem? (i := 1055) (by decide +kernel))
theorem VX6_goodAddresses : Jvm.Cond.selects "ShadowWard$Memory" yX6_goodAddresses yX6_goodAddresses ∈ lw_tbl := z_in (List.mem_of_getElem? (i := 1056) (by decide +kernel))
def CX6_isGood_0 : List zEn := [(0, .aload_n 0, 1, 0, 0), (1, .iload_n 1, 2, 0, 0), (2, .invokevirtual 52, 5, 0, 27), (5, .ifCond .eq 26, 8, 0, 31), (8, .iload_n 1, 9, 0, 0), (9, .bipush 8, 11, 8, 0), (11, .irem, 12, 0, 0), (12, .aload_n 0, 13, 0, 0), (13, .aload_n 0, 14, 0, 0), (14, .iload_n 1, 15, 0, 0), (15, .bipush 8, 17, 8, 0), (17, .idiv, 18, 0, 0), (18, .invokevirtual 56, 21, 0, 28), (21, .invokevirtual 48, 24, 0, 29), (24, .if_icmp .ge 7, 27, 0, 31), (27, .iconst 1, 28, 1, 0), (28, .goto 4, 31, 0, 32), (31, .iconst 0, 32, 0, 0), (32, .ireturn, 33, 0, 0)]
def MX6_isGood : zMI := (yX6_isGood, cX6_isGood, 2, (some .boolean), [(99999, CX6_isGood_0)], [])
theorem DX6_isGood_0 : CX6_isGood_0.all (zchk cX6_isGood) = true := by decide +kernel
theorem OX6_isGood : zMOK MX6_isGood := by
  intro q hq e he
  simp only [MX6_isGood, zFt, List.mem_cons, List.not_mem_nil, or_false] at hq
  rcases hq with rfl
  · exact List.all_eq_true.mp DX6_isGood_0 e he
theorem KX6_isGood : zMK MX6_isGood := ⟨OX6_isGood, by decide +kernel, z_in (List.mem_of_getElem? (i := 242) (by decide +kernel)), z_in (List.mem_of_getElem? (i := 2) (by decide +kernel)), by decide +kernel, by decide +kernel⟩
theorem IX6_isGood : Jvm.Cond.instanceMethod yX6_isGood ∈ lw_tbl := z_in (List.mem_of_getElem? (i := 240) (by decide +kernel))
theorem VX6_isGood : Jvm.Cond.selects "ShadowWard$Memory" yX6_isGood yX6_isGood ∈ lw_tbl := z_in (List.mem_of_getElem? (i := 241) (by decide +kernel))
def CX6_firstWrong_0 : List zEn := [(0, .iconst 0, 1, 0, 0), (1, .istore_n 3, 2, 0, 0), (2, .iload_n 3, 3, 0, 0), (3, .iload_n 2, 4, 0, 0), (4, .if_icmp .ge 21, 7, 0, 25), (7, .aload_n 0, 8, 0, 0), (8, .iload_n 1, 9, 0, 0), (9, .iload_n 3, 10, 0, 0), (10, .iadd, 11, 0, 0), (11, .invokevirtual 59, 14, 0, 26), (14, .ifCond .ne 5, 17, 0, 19), (17, .iload_n 3, 18, 0, 0), (18, .ireturn, 19, 0, 0), (19, .iinc 3 1, 22, 1, 0), (22, .goto (-20), 25, 0, 2), (25, .iconst (-1), 26, (-1), 0), (26, .ireturn, 27, 0, 0)]
def MX6_firstWrong : zMI := (yX6_firstWrong, cX6_firstWrong, 4, (some .int), [(99999, CX6_firstWrong_0)], [])
theorem DX6_firstWrong_0 : CX6_firstWrong_0.all (zchk cX6_firstWrong) = true := by decide +kernel
theorem OX6_firstWrong : zMOK MX6_firstWrong := by
  intro q hq e he
  simp only [MX6_firstWrong, zFt, List.mem_cons, List.not_mem_nil, or_false] at hq
  rcases hq with rfl
  · exact List.all_eq_true.mp DX6_firstWrong_0 e he
theorem KX6_firstWrong : zMK MX6_firstWrong := ⟨OX6_firstWrong, by decide +kernel, z_in (List.mem_of_getElem? (i := 238) (by decide +kernel)), z_in (List.mem_of_getElem? (i := 2) (by decide +kernel)), by decide +kernel, by decide +kernel⟩
theorem IX6_firstWrong : Jvm.Cond.instanceMethod yX6_firstWrong ∈ lw_tbl := z_in (List.mem_of_getElem? (i := 236) (by decide +kernel))
theorem VX6_firstWrong : Jvm.Cond.selects "ShadowWard$Memory" yX6_firstWrong yX6_firstWrong ∈ lw_tbl := z_in (List.mem_of_getElem? (i := 237) (by decide +kernel))
def CX6_kindOfWrong_0 : List zEn := [(0, .aload_n 0, 1, 0, 0), (1, .iload_n 1, 2, 0, 0), (2, .invokevirtual 52, 5, 0, 27), (5, .ifCond .ne 6, 8, 0, 11), (8, .bipush 9, 10, 9, 0), (10, .ireturn, 11, 0, 0), (11, .aload_n 0, 12, 0, 0), (12, .iload_n 1, 13, 0, 0), (13, .bipush 8, 15, 8, 0), (15, .idiv, 16, 0, 0), (16, .invokevirtual 56, 19, 0, 28), (19, .istore_n 2, 20, 0, 0), (20, .aload_n 0, 21, 0, 0), (21, .iload_n 2, 22, 0, 0), (22, .invokevirtual 48, 25, 0, 29), (25, .ifCond .le 14, 28, 0, 39), (28, .aload_n 0, 29, 0, 0), (29, .iload_n 1, 30, 0, 0), (30, .bipush 8, 32, 8, 0), (32, .idiv, 33, 0, 0), (33, .iconst 1, 34, 1, 0), (34, .iadd, 35, 0, 0), (35, .invokevirtual 56, 38, 0, 28), (38, .istore_n 2, 39, 0, 0), (39, .iload_n 2, 40, 0, 0), (40, .tableswitch 86 241 253 #[72, 74, 76, 86, 78, 86, 86, 80, 83, 68, 86, 86, 70], 108, 0, 0), (108, .iconst 1, 109, 1, 0), (109, .ireturn, 110, 0, 0), (110, .iconst 2, 111, 2, 0), (111, .ireturn, 112, 0, 0)]
def CX6_kindOfWrong_1 : List zEn := [(112, .iconst 3, 113, 3, 0), (113, .ireturn, 114, 0, 0), (114, .iconst 4, 115, 4, 0), (115, .ireturn, 116, 0, 0), (116, .iconst 4, 117, 4, 0), (117, .ireturn, 118, 0, 0), (118, .iconst 5, 119, 5, 0), (119, .ireturn, 120, 0, 0), (120, .bipush 6, 122, 6, 0), (122, .ireturn, 123, 0, 0), (123, .bipush 7, 125, 7, 0), (125, .ireturn, 126, 0, 0), (126, .bipush 8, 128, 8, 0), (128, .ireturn, 129, 0, 0)]
def MX6_kindOfWrong : zMI := (yX6_kindOfWrong, cX6_kindOfWrong, 3, (some .int), [(112, CX6_kindOfWrong_0), (99999, CX6_kindOfWrong_1)], [])
theorem DX6_kindOfWrong_0 : CX6_kindOfWrong_0.all (zchk cX6_kindOfWrong) = true := by decide +kernel
theorem DX6_kindOfWrong_1 : CX6_kindOfWrong_1.all (zchk cX6_kindOfWrong) = true := by decide +kernel
theorem OX6_kindOfWrong : zMOK MX6_kindOfWrong := by
  intro q hq e he
  simp only [MX6_kindOfWrong, zFt, List.mem_cons, List.not_mem_nil, or_false] at hq
  rcases hq with rfl | rfl
  · exact List.all_eq_true.mp DX6_kindOfWrong_0 e he
  · exact List.all_eq_true.mp DX6_kindOfWrong_1 e he
theorem KX6_kindOfWrong : zMK MX6_kindOfWrong := ⟨OX6_kindOfWrong, by decide +kernel, z_in (List.mem_of_getElem? (i := 258) (by decide +kernel)), z_in (List.mem_of_getElem? (i := 2) (by decide +kernel)), by decide +kernel, by decide +kernel⟩
theorem IX6_kindOfWrong : Jvm.Cond.instanceMethod yX6_kindOfWrong ∈ lw_tbl := z_in (List.mem_of_getElem? (i := 256) (by decide +kernel))
theorem VX6_kindOfWrong : Jvm.Cond.selects "ShadowWard$Memory" yX6_kindOfWrong yX6_kindOfWrong ∈ lw_tbl := z_in (List.mem_of_getElem? (i := 257) (by decide +kernel))
def CX6_number_0 : List zEn := [(0, .lconst 0, 1, 0, 0), (1, .lstore_n 3, 2, 0, 0), (2, .iload_n 2, 3, 0, 0), (3, .iconst 1, 4, 1, 0), (4, .isub, 5, 0, 0), (5, .istore 5, 7, 0, 0), (7, .iload 5, 9, 0, 0), (9, .ifCond .lt 24, 12, 0, 33), (12, .lload_n 3, 13, 0, 0), (13, .bipush 8, 15, 8, 0), (15, .lshl, 16, 0, 0), (16, .aload_n 0, 17, 0, 0), (17, .iload_n 1, 18, 0, 0), (18, .iload 5, 20, 0, 0), (20, .iadd, 21, 0, 0), (21, .invokevirtual 62, 24, 0, 92), (24, .i2l, 25, 0, 0), (25, .lor, 26, 0, 0), (26, .lstore_n 3, 27, 0, 0), (27, .iinc 5 (-1), 30, (-1), 0), (30, .goto (-23), 33, 0, 7), (33, .lload_n 3, 34, 0, 0), (34, .lreturn, 35, 0, 0)]
def MX6_number : zMI := (yX6_number, cX6_number, 6, (some .long), [(99999, CX6_number_0)], [])
theorem DX6_number_0 : CX6_number_0.all (zchk cX6_number) = true := by decide +kernel
theorem OX6_number : zMOK MX6_number := by
  intro q hq e he
  simp only [MX6_number, zFt, List.mem_cons, List.not_mem_nil, or_false] at hq
  rcases hq with rfl
  · exact List.all_eq_true.mp DX6_number_0 e he
theorem KX6_number : zMK MX6_number := ⟨OX6_number, by decide +kernel, z_in (List.mem_of_getElem? (i := 556) (by decide +kernel)), z_in (List.mem_of_getElem? (i := 2) (by decide +kernel)), by decide +kernel, by decide +kernel⟩
theorem IX6_number : Jvm.Cond.instanceMethod yX6_number ∈ lw_tbl := z_in (List.mem_of_getElem? (i := 554) (by decide +kernel))
theorem VX6_number : Jvm.Cond.selects "ShadowWard$Memory" yX6_number yX6_number ∈ lw_tbl := z_in (List.mem_of_getElem? (i := 555) (by decide +kernel))
def CX6_setNumber_0 : List zEn := [(0, .aload_n 0, 1, 0, 0), (1, .iload_n 1, 2, 0, 0), (2, .iload_n 2, 3, 0, 0), (3, .invokevirtual 44, 6, 0, 81), (6, .ifCond .ne 4, 9, 0, 10), (9, .return_, 10, 0, 0), (10, .iconst 0, 11, 0, 0), (11, .istore 5, 13, 0, 0), (13, .iload 5, 15, 0, 0), (15, .iload_n 2, 16, 0, 0), (16, .if_icmp .ge 30, 19, 0, 46), (19, .aload_n 0, 20, 0, 0), (20, .getfield 21, 23, 0, 11), (23, .iload_n 1, 24, 0, 0), (24, .iload 5, 26, 0, 0), (26, .iadd, 27, 0, 0), (27, .lload_n 3, 28, 0, 0), (28, .bipush 8, 30, 8, 0), (30, .iload 5, 32, 0, 0), (32, .imul, 33, 0, 0), (33, .lushr, 34, 0, 0), (34, .l2i, 35, 0, 0), (35, .sipush 255, 38, 255, 0), (38, .iand, 39, 0, 0), (39, .iastore, 40, 0, 0), (40, .iinc 5 1, 43, 1, 0), (43, .goto (-30), 46, 0, 13), (46, .return_, 47, 0, 0)]
def MX6_setNumber : zMI := (yX6_setNumber, cX6_setNumber, 6, none, [(99999, CX6_setNumber_0)], [])
theorem DX6_setNumber_0 : CX6_setNumber_0.all (zchk cX6_setNumber) = true := by decide +kernel
theorem OX6_setNumber : zMOK MX6_setNumber := by
  intro q hq e he
  simp only [MX6_setNumber, zFt, List.mem_cons, List.not_mem_nil, or_false] at hq
  rcases hq with rfl
  · exact List.all_eq_true.mp DX6_setNumber_0 e he
theorem KX6_setNumber : zMK MX6_setNumber := ⟨OX6_setNumber, by decide +kernel, z_in (List.mem_of_getElem? (i := 959) (by decide +kernel)), z_in (List.mem_of_getElem? (i := 2) (by decide +kernel)), by decide +kernel, by decide +kernel⟩
theorem IX6_setNumber : Jvm.Cond.instanceMethod yX6_setNumber ∈ lw_tbl := z_in (List.mem_of_getElem? (i := 957) (by decide +kernel))
theorem VX6_setNumber : Jvm.Cond.selects "ShadowWard$Memory" yX6_setNumber yX6_setNumber ∈ lw_tbl := z_in (List.mem_of_getElem? (i := 958) (by decide +kernel))
def CX6_setBytes_0 : List zEn := [(0, .aload_n 0, 1, 0, 0), (1, .iload_n 1, 2, 0, 0), (2, .iload_n 2, 3, 0, 0), (3, .invokevirtual 44, 6, 0, 81), (6, .ifCond .ne 4, 9, 0, 10), (9, .return_, 10, 0, 0), (10, .iconst 0, 11, 0, 0), (11, .istore 4, 13, 0, 0), (13, .iload 4, 15, 0, 0), (15, .iload_n 2, 16, 0, 0), (16, .if_icmp .ge 23, 19, 0, 39), (19, .aload_n 0, 20, 0, 0), (20, .getfield 21, 23, 0, 11), (23, .iload_n 1, 24, 0, 0), (24, .iload 4, 26, 0, 0), (26, .iadd, 27, 0, 0), (27, .iload_n 3, 28, 0, 0), (28, .sipush 255, 31, 255, 0), (31, .iand, 32, 0, 0), (32, .iastore, 33, 0, 0), (33, .iinc 4 1, 36, 1, 0), (36, .goto (-23), 39, 0, 13), (39, .return_, 40, 0, 0)]
def MX6_setBytes : zMI := (yX6_setBytes, cX6_setBytes, 5, none, [(99999, CX6_setBytes_0)], [])
theorem DX6_setBytes_0 : CX6_setBytes_0.all (zchk cX6_setBytes) = true := by decide +kernel
theorem OX6_setBytes : zMOK MX6_setBytes := by
  intro q hq e he
  simp only [MX6_setBytes, zFt, List.mem_cons, List.not_mem_nil, or_false] at hq
  rcases hq with rfl
  · exact List.all_eq_true.mp DX6_setBytes_0 e he
theorem KX6_setBytes : zMK MX6_setBytes := ⟨OX6_setBytes, by decide +kernel, z_in (List.mem_of_getElem? (i := 911) (by decide +kernel)), z_in (List.mem_of_getElem? (i := 2) (by decide +kernel)), by decide +kernel, by decide +kernel⟩
theorem IX6_setBytes : Jvm.Cond.instanceMethod yX6_setBytes ∈ lw_tbl := z_in (List.mem_of_getElem? (i := 909) (by decide +kernel))
theorem VX6_setBytes : Jvm.Cond.selects "ShadowWard$Memory" yX6_setBytes yX6_setBytes ∈ lw_tbl := z_in (List.mem_of_getElem? (i := 910) (by decide +kernel))
def CX6_moveBytes_0 : List zEn := [(0, .iload_n 3, 1, 0, 0), (1, .ifCond .le 35, 4, 0, 36), (4, .aload_n 0, 5, 0, 0), (5, .iload_n 1, 6, 0, 0), (6, .iload_n 3, 7, 0, 0), (7, .invokevirtual 44, 10, 0, 81), (10, .ifCond .eq 26, 13, 0, 36), (13, .aload_n 0, 14, 0, 0), (14, .iload_n 2, 15, 0, 0), (15, .iload_n 3, 16, 0, 0), (16, .invokevirtual 44, 19, 0, 81), (19, .ifCond .eq 17, 22, 0, 36), (22, .aload_n 0, 23, 0, 0), (23, .getfield 21, 26, 0, 11), (26, .iload_n 2, 27, 0, 0), (27, .aload_n 0, 28, 0, 0), (28, .getfield 21, 31, 0, 11), (31, .iload_n 1, 32, 0, 0), (32, .iload_n 3, 33, 0, 0), (33, .invokestatic 65, 36, 0, 82), (36, .return_, 37, 0, 0)]
def MX6_moveBytes : zMI := (yX6_moveBytes, cX6_moveBytes, 4, none, [(99999, CX6_moveBytes_0)], [])
theorem DX6_moveBytes_0 : CX6_moveBytes_0.all (zchk cX6_moveBytes) = true := by decide +kernel
theorem OX6_moveBytes : zMOK MX6_moveBytes := by
  intro q hq e he
  simp only [MX6_moveBytes, zFt, List.mem_cons, List.not_mem_nil, or_false] at hq
  rcases hq with rfl
  · exact List.all_eq_true.mp DX6_moveBytes_0 e he
theorem KX6_moveBytes : zMK MX6_moveBytes := ⟨OX6_moveBytes, by decide +kernel, z_in (List.mem_of_getElem? (i := 519) (by decide +kernel)), z_in (List.mem_of_getElem? (i := 2) (by decide +kernel)), by decide +kernel, by decide +kernel⟩
theorem IX6_moveBytes : Jvm.Cond.instanceMethod yX6_moveBytes ∈ lw_tbl := z_in (List.mem_of_getElem? (i := 517) (by decide +kernel))
theorem VX6_moveBytes : Jvm.Cond.selects "ShadowWard$Memory" yX6_moveBytes yX6_moveBytes ∈ lw_tbl := z_in (List.mem_of_getElem? (i := 518) (by decide +kernel))
def CX7_init_0 : List zEn := [(0, .aload_n 0, 1, 0, 0), (1, .invokespecial 1, 4, 0, 108), (4, .aload_n 0, 5, 0, 0), (5, .iload_n 1, 6, 0, 0), (6, .putfield 7, 9, 0, 71), (9, .aload_n 0, 10, 0, 0), (10, .iload_n 2, 11, 0, 0), (11, .putfield 13, 14, 0, 73), (14, .aload_n 0, 15, 0, 0), (15, .iload_n 3, 16, 0, 0), (16, .putfield 16, 19, 0, 76), (19, .aload_n 0, 20, 0, 0), (20, .iload 4, 22, 0, 0), (22, .putfield 19, 25, 0, 85), (25, .aload_n 0, 26, 0, 0), (26, .iload_n 3, 27, 0, 0), (27, .iload 4, 29, 0, 0), (29, .iadd, 30, 0, 0), (30, .putfield 22, 33, 0, 90), (33, .aload_n 0, 34, 0, 0), (34, .iload 5, 36, 0, 0), (36, .putfield 25, 39, 0, 94), (39, .return_, 40, 0, 0)]
def MX7_init : zMI := (yX7_init, cX7_init, 6, none, [(99999, CX7_init_0)], [])
theorem DX7_init_0 : CX7_init_0.all (zchk cX7_init) = true := by decide +kernel
theorem OX7_init : zMOK MX7_init := by
  intro q hq e he
  simp only [MX7_init, zFt, List.mem_cons, List.not_mem_nil, or_false] at hq
  rcases hq with rfl
  · exact List.all_eq_true.mp DX7_init_0 e he
theorem KX7_init : zMK MX7_init := ⟨OX7_init, by decide +kernel, z_in (List.mem_of_getElem? (i := 612) (by decide +kernel)), z_in (List.mem_of_getElem? (i := 18) (by decide +kernel)), by decide +kernel, by decide +kernel⟩
theorem IX7_init : Jvm.Cond.instanceMethod yX7_init ∈ lw_tbl := z_in (List.mem_of_getElem? (i := 611) (by decide +kernel))
def CX7_hasByte_0 : List zEn := [(0, .iload_n 1, 1, 0, 0), (1, .aload_n 0, 2, 0, 0), (2, .getfield 16, 5, 0, 76), (5, .if_icmp .lt 15, 8, 0, 20), (8, .iload_n 1, 9, 0, 0), (9, .aload_n 0, 10, 0, 0), (10, .getfield 22, 13, 0, 90), (13, .if_icmp .ge 7, 16, 0, 20), (16, .iconst 1, 17, 1, 0), (17, .goto 4, 20, 0, 21), (20, .iconst 0, 21, 0, 0), (21, .ireturn, 22, 0, 0)]
def MX7_hasByte : zMI := (yX7_hasByte, cX7_hasByte, 2, (some .boolean), [(99999, CX7_hasByte_0)], [])
theorem DX7_hasByte_0 : CX7_hasByte_0.all (zchk cX7_hasByte) = true := by decide +kernel
theorem OX7_hasByte : zMOK MX7_hasByte := by
  intro q hq e he
  simp only [MX7_hasByte, zFt, List.mem_cons, List.not_mem_nil, or_false] at hq
  rcases hq with rfl
  · exact List.all_eq_true.mp DX7_hasByte_0 e he
theorem KX7_hasByte : zMK MX7_hasByte := ⟨OX7_hasByte, by decide +kernel, z_in (List.mem_of_getElem? (i := 571) (by decide +kernel)), z_in (List.mem_of_getElem? (i := 18) (by decide +kernel)), by decide +kernel, by decide +kernel⟩
theorem IX7_hasByte : Jvm.Cond.instanceMethod yX7_hasByte ∈ lw_tbl := z_in (List.mem_of_getElem? (i := 570) (by decide +kernel))
def CX7_farFrom_0 : List zEn := [(0, .iload_n 1, 1, 0, 0), (1, .aload_n 0, 2, 0, 0), (2, .getfield 16, 5, 0, 76), (5, .if_icmp .ge 10, 8, 0, 15), (8, .aload_n 0, 9, 0, 0), (9, .getfield 16, 12, 0, 76), (12, .iload_n 1, 13, 0, 0), (13, .isub, 14, 0, 0), (14, .ireturn, 15, 0, 0), (15, .iload_n 1, 16, 0, 0), (16, .aload_n 0, 17, 0, 0), (17, .getfield 22, 20, 0, 90), (20, .if_icmp .ge 7, 23, 0, 27), (23, .iconst 0, 24, 0, 0), (24, .goto 11, 27, 0, 35), (27, .iload_n 1, 28, 0, 0), (28, .aload_n 0, 29, 0, 0), (29, .getfield 22, 32, 0, 90), (32, .isub, 33, 0, 0), (33, .iconst 1, 34, 1, 0), (34, .iadd, 35, 0, 0), (35, .ireturn, 36, 0, 0)]
def MX7_farFrom : zMI := (yX7_farFrom, cX7_farFrom, 2, (some .int), [(99999, CX7_farFrom_0)], [])
theorem DX7_farFrom_0 : CX7_farFrom_0.all (zchk cX7_farFrom) = true := by decide +kernel
theorem OX7_farFrom : zMOK MX7_farFrom := by
  intro q hq e he
  simp only [MX7_farFrom, zFt, List.mem_cons, List.not_mem_nil, or_false] at hq
  rcases hq with rfl
  · exact List.all_eq_true.mp DX7_farFrom_0 e he
theorem KX7_farFrom : zMK MX7_farFrom := ⟨OX7_farFrom, by decide +kernel, z_in (List.mem_of_getElem? (i := 297) (by decide +kernel)), z_in (List.mem_of_getElem? (i := 18) (by decide +kernel)), by decide +kernel, by decide +kernel⟩
theorem IX7_farFrom : Jvm.Cond.instanceMethod yX7_farFrom ∈ lw_tbl := z_in (List.mem_of_getElem? (i := 292) (by decide +kernel))
theorem VX7_farFrom : Jvm.Cond.selects "ShadowWard$Region" yX7_farFrom yX7_farFrom ∈ lw_tbl := z_in (List.mem_of_getElem? (i := 293) (by decide +kernel))
theorem VX7_farFrom_Block : Jvm.Cond.selects "ShadowWard$Block" yX7_farFrom yX7_farFrom ∈ lw_tbl := z_in (List.mem_of_getElem? (i := 295) (by decide +kernel))
theorem VX7_farFrom_Variable : Jvm.Cond.selects "ShadowWard$Variable" yX7_farFrom yX7_farFrom ∈ lw_tbl := z_in (List.mem_of_getElem? (i := 296) (by decide +kernel))
def CX7_sideOf_0 : List zEn := [(0, .iload_n 1, 1, 0, 0), (1, .aload_n 0, 2, 0, 0), (2, .getfield 16, 5, 0, 76), (5, .if_icmp .ge 5, 8, 0, 10), (8, .iconst 2, 9, 2, 0), (9, .ireturn, 10, 0, 0), (10, .iload_n 1, 11, 0, 0), (11, .aload_n 0, 12, 0, 0), (12, .getfield 22, 15, 0, 90), (15, .if_icmp .ge 7, 18, 0, 22), (18, .iconst 0, 19, 0, 0), (19, .goto 4, 22, 0, 23), (22, .iconst 1, 23, 1, 0), (23, .ireturn, 24, 0, 0)]
def MX7_sideOf : zMI := (yX7_sideOf, cX7_sideOf, 2, (some .int), [(99999, CX7_sideOf_0)], [])
theorem DX7_sideOf_0 : CX7_sideOf_0.all (zchk cX7_sideOf) = true := by decide +kernel
theorem OX7_sideOf : zMOK MX7_sideOf := by
  intro q hq e he
  simp only [MX7_sideOf, zFt, List.mem_cons, List.not_mem_nil, or_false] at hq
  rcases hq with rfl
  · exact List.all_eq_true.mp DX7_sideOf_0 e he
theorem KX7_sideOf : zMK MX7_sideOf := ⟨OX7_sideOf, by decide +kernel, z_in (List.mem_of_getElem? (i := 334) (by decide +kernel)), z_in (List.mem_of_getElem? (i := 18) (by decide +kernel)), by decide +kernel, by decide +kernel⟩
theorem IX7_sideOf : Jvm.Cond.instanceMethod yX7_sideOf ∈ lw_tbl := z_in (List.mem_of_getElem? (i := 329) (by decide +kernel))
theorem VX7_sideOf : Jvm.Cond.selects "ShadowWard$Region" yX7_sideOf yX7_sideOf ∈ lw_tbl := z_in (List.mem_of_getElem? (i := 330) (by decide +kernel))
theorem VX7_sideOf_Block : Jvm.Cond.selects "ShadowWard$Block" yX7_sideOf yX7_sideOf ∈ lw_tbl := z_in (List.mem_of_getElem? (i := 332) (by decide +kernel))
theorem VX7_sideOf_Variable : Jvm.Cond.selects "ShadowWard$Variable" yX7_sideOf yX7_sideOf ∈ lw_tbl := z_in (List.mem_of_getElem? (i := 333) (by decide +kernel))
def CX8_init_0 : List zEn := [(0, .aload_n 0, 1, 0, 0), (1, .invokespecial 3, 4, 0, 50), (4, .aload_n 0, 5, 0, 0), (5, .iconst 0, 6, 0, 0), (6, .putfield 9, 9, 0, 57), (9, .aload_n 0, 10, 0, 0), (10, .iconst (-1), 11, (-1), 0), (11, .putfield 15, 14, 0, 58), (14, .aload_n 0, 15, 0, 0), (15, .iconst 0, 16, 0, 0), (16, .putfield 18, 19, 0, 59), (19, .aload_n 0, 20, 0, 0), (20, .iconst 0, 21, 0, 0), (21, .putfield 21, 24, 0, 60), (24, .aload_n 0, 25, 0, 0), (25, .iconst 0, 26, 0, 0), (26, .putfield 24, 29, 0, 61), (29, .aload_n 0, 30, 0, 0), (30, .iconst 0, 31, 0, 0), (31, .putfield 27, 34, 0, 62), (34, .aload_n 0, 35, 0, 0), (35, .iload_n 1, 36, 0, 0), (36, .putfield 30, 39, 0, 53), (39, .aload_n 0, 40, 0, 0), (40, .iload_n 2, 41, 0, 0), (41, .putfield 33, 44, 0, 54), (44, .aload_n 0, 45, 0, 0), (45, .iload_n 3, 46, 0, 0), (46, .putfield 36, 49, 0, 55), (49, .aload_n 0, 50, 0, 0)]
def CX8_init_1 : List zEn := [(50, .iload 4, 52, 0, 0), (52, .putfield 39, 55, 0, 56), (55, .aload 5, 57, 0, 0), (57, .ifnull 59, 60, 0, 116), (60, .aload_n 0, 61, 0, 0), (61, .aload 5, 63, 0, 0), (63, .getfield 42, 66, 0, 72), (66, .putfield 9, 69, 0, 57), (69, .aload_n 0, 70, 0, 0), (70, .aload 5, 72, 0, 0), (72, .getfield 45, 75, 0, 74), (75, .putfield 15, 78, 0, 58), (78, .aload_n 0, 79, 0, 0), (79, .aload 5, 81, 0, 0), (81, .iload_n 2, 82, 0, 0), (82, .invokevirtual 46, 85, 0, 51), (85, .putfield 18, 88, 0, 59), (88, .aload_n 0, 89, 0, 0), (89, .aload 5, 91, 0, 0), (91, .iload_n 2, 92, 0, 0), (92, .invokevirtual 50, 95, 0, 52), (95, .putfield 21, 98, 0, 60), (98, .aload_n 0, 99, 0, 0), (99, .aload 5, 101, 0, 0), (101, .getfield 53, 104, 0, 95), (104, .putfield 24, 107, 0, 61), (107, .aload_n 0, 108, 0, 0), (108, .aload 5, 110, 0, 0), (110, .getfield 54, 113, 0, 97), (113, .putfield 27, 116, 0, 62)]
def CX8_init_2 : List zEn := [(116, .return_, 117, 0, 0)]
def MX8_init : zMI := (yX8_init, cX8_init, 6, none, [(50, CX8_init_0), (116, CX8_init_1), (99999, CX8_init_2)], [])
theorem DX8_init_0 : CX8_init_0.all (zchk cX8_init) = true := by decide +kernel
theorem DX8_init_1 : CX8_init_1.all (zchk cX8_init) = true := by decide +kernel
theorem DX8_init_2 : CX8_init_2.all (zchk cX8_init) = true := by decide +kernel
theorem OX8_init : zMOK MX8_init := by
  intro q hq e he
  simp only [MX8_init, zFt, List.mem_cons, List.not_mem_nil, or_false] at hq
  rcases hq with rfl | rfl | rfl
  · exact List.all_eq_true.mp DX8_init_0 e he
  · exact List.all_eq_true.mp DX8_init_1 e he
  · exact List.all_eq_true.mp DX8_init_2 e he
theorem KX8_init : zMK MX8_init := ⟨OX8_init, by decide +kernel, z_in (List.mem_of_getElem? (i := 325) (by decide +kernel)), z_in (List.mem_of_getElem? (i := 28) (by decide +kernel)), by decide +kernel, by decide +kernel⟩
theorem IX8_init : Jvm.Cond.instanceMethod yX8_init ∈ lw_tbl := z_in (List.mem_of_getElem? (i := 324) (by decide +kernel))
def CX8_answer_0 : List zEn := [(0, .iload_n 1, 1, 0, 0), (1, .tableswitch 96 0 8 #[51, 56, 61, 66, 71, 76, 81, 86, 91], 52, 0, 0), (52, .aload_n 0, 53, 0, 0), (53, .getfield 30, 56, 0, 53), (56, .ireturn, 57, 0, 0), (57, .aload_n 0, 58, 0, 0), (58, .getfield 33, 61, 0, 54), (61, .ireturn, 62, 0, 0), (62, .aload_n 0, 63, 0, 0), (63, .getfield 36, 66, 0, 55), (66, .ireturn, 67, 0, 0), (67, .aload_n 0, 68, 0, 0), (68, .getfield 39, 71, 0, 56), (71, .ireturn, 72, 0, 0), (72, .aload_n 0, 73, 0, 0), (73, .getfield 9, 76, 0, 57), (76, .ireturn, 77, 0, 0), (77, .aload_n 0, 78, 0, 0), (78, .getfield 15, 81, 0, 58), (81, .ireturn, 82, 0, 0), (82, .aload_n 0, 83, 0, 0), (83, .getfield 18, 86, 0, 59), (86, .ireturn, 87, 0, 0), (87, .aload_n 0, 88, 0, 0), (88, .getfield 21, 91, 0, 60), (91, .ireturn, 92, 0, 0), (92, .aload_n 0, 93, 0, 0), (93, .getfield 24, 96, 0, 61), (96, .ireturn, 97, 0, 0), (97, .aload_n 0, 98, 0, 0)]
def CX8_answer_1 : List zEn := [(98, .getfield 27, 101, 0, 62), (101, .ireturn, 102, 0, 0)]
def MX8_answer : zMI := (yX8_answer, cX8_answer, 2, (some .int), [(98, CX8_answer_0), (99999, CX8_answer_1)], [])
theorem DX8_answer_0 : CX8_answer_0.all (zchk cX8_answer) = true := by decide +kernel
theorem DX8_answer_1 : CX8_answer_1.all (zchk cX8_answer) = true := by decide +kernel
theorem OX8_answer : zMOK MX8_answer := by
  intro q hq e he
  simp only [MX8_answer, zFt, List.mem_cons, List.not_mem_nil, or_false] at hq
  rcases hq with rfl | rfl
  · exact List.all_eq_true.mp DX8_answer_0 e he
  · exact List.all_eq_true.mp DX8_answer_1 e he
theorem KX8_answer : zMK MX8_answer := ⟨OX8_answer, by decide +kernel, z_in (List.mem_of_getElem? (i := 1008) (by decide +kernel)), z_in (List.mem_of_getElem? (i := 28) (by decide +kernel)), by decide +kernel, by decide +kernel⟩
theorem IX8_answer : Jvm.Cond.instanceMethod yX8_answer ∈ lw_tbl := z_in (List.mem_of_getElem? (i := 1006) (by decide +kernel))
theorem VX8_answer : Jvm.Cond.selects "ShadowWard$Report" yX8_answer yX8_answer ∈ lw_tbl := z_in (List.mem_of_getElem? (i := 1007) (by decide +kernel))
def CX9_init_0 : List zEn := [(0, .aload_n 0, 1, 0, 0), (1, .iconst 2, 2, 2, 0), (2, .iload_n 1, 3, 0, 0), (3, .iload_n 2, 4, 0, 0), (4, .iload_n 3, 5, 0, 0), (5, .iconst 0, 6, 0, 0), (6, .invokespecial 3, 9, 0, 121), (9, .aload_n 0, 10, 0, 0), (10, .iconst 1, 11, 1, 0), (11, .putfield 9, 14, 0, 108), (14, .return_, 15, 0, 0)]
def MX9_init : zMI := (yX9_init, cX9_init, 4, none, [(99999, CX9_init_0)], [])
theorem DX9_init_0 : CX9_init_0.all (zchk cX9_init) = true := by decide +kernel
theorem OX9_init : zMOK MX9_init := by
  intro q hq e he
  simp only [MX9_init, zFt, List.mem_cons, List.not_mem_nil, or_false] at hq
  rcases hq with rfl
  · exact List.all_eq_true.mp DX9_init_0 e he
theorem KX9_init : zMK MX9_init := ⟨OX9_init, by decide +kernel, z_in (List.mem_of_getElem? (i := 719) (by decide +kernel)), z_in (List.mem_of_getElem? (i := 23) (by decide +kernel)), by decide +kernel, by decide +kernel⟩
theorem IX9_init : Jvm.Cond.instanceMethod yX9_init ∈ lw_tbl := z_in (List.mem_of_getElem? (i := 718) (by decide +kernel))
def CX10_init_0 : List zEn := [(0, .aload_n 0, 1, 0, 0), (1, .invokespecial 1, 4, 0, 1), (4, .aload_n 0, 5, 0, 0), (5, .new 7, 8, 0, 1), (8, .dup, 9, 0, 0), (9, .iload_n 1, 10, 0, 0), (10, .invokespecial 9, 13, 0, 2), (13, .putfield 12, 16, 0, 47), (16, .aload_n 0, 17, 0, 0), (17, .new 18, 20, 0, 2), (20, .dup, 21, 0, 0), (21, .aload_n 0, 22, 0, 0), (22, .getfield 12, 25, 0, 47), (25, .invokespecial 20, 28, 0, 7), (28, .putfield 23, 31, 0, 48), (31, .aload_n 0, 32, 0, 0), (32, .new 27, 35, 0, 4), (35, .dup, 36, 0, 0), (36, .aload_n 0, 37, 0, 0), (37, .getfield 12, 40, 0, 47), (40, .invokespecial 29, 43, 0, 13), (43, .putfield 30, 46, 0, 49), (46, .aload_n 0, 47, 0, 0), (47, .new 34, 50, 0, 6), (50, .dup, 51, 0, 0), (51, .aload_n 0, 52, 0, 0), (52, .getfield 12, 55, 0, 47), (55, .iload_n 2, 56, 0, 0), (56, .invokespecial 36, 59, 0, 16), (59, .putfield 39, 62, 0, 50)]
def CX10_init_1 : List zEn := [(62, .aload_n 0, 63, 0, 0), (63, .new 43, 66, 0, 9), (66, .dup, 67, 0, 0), (67, .aload_n 0, 68, 0, 0), (68, .getfield 12, 71, 0, 47), (71, .aload_n 0, 72, 0, 0), (72, .getfield 23, 75, 0, 48), (75, .aload_n 0, 76, 0, 0), (76, .getfield 30, 79, 0, 49), (79, .aload_n 0, 80, 0, 0), (80, .getfield 39, 83, 0, 50), (83, .invokespecial 45, 86, 0, 19), (86, .putfield 48, 89, 0, 51), (89, .aload_n 0, 90, 0, 0), (90, .new 52, 93, 0, 11), (93, .dup, 94, 0, 0), (94, .invokespecial 54, 97, 0, 22), (97, .putfield 55, 100, 0, 52), (100, .return_, 101, 0, 0)]
def MX10_init : zMI := (yX10_init, cX10_init, 3, none, [(62, CX10_init_0), (99999, CX10_init_1)], [])
theorem DX10_init_0 : CX10_init_0.all (zchk cX10_init) = true := by decide +kernel
theorem DX10_init_1 : CX10_init_1.all (zchk cX10_init) = true := by decide +kernel
theorem OX10_init : zMOK MX10_init := by
  intro q hq e he
  simp only [MX10_init, zFt, List.mem_cons, List.not_mem_nil, or_false] at hq
  rcases hq with rfl | rfl
  · exact List.all_eq_true.mp DX10_init_0 e he
  · exact List.all_eq_true.mp DX10_init_1 e he
theorem KX10_init : zMK MX10_init := ⟨OX10_init, by decide +kernel, z_in (List.mem_of_getElem? (i := 33) (by decide +kernel)), z_in (List.mem_of_getElem? (i := 1) (by decide +kernel)), by decide +kernel, by decide +kernel⟩
theorem IX10_init : Jvm.Cond.instanceMethod yX10_init ∈ lw_tbl := z_in (List.mem_of_getElem? (i := 32) (by decide +kernel))
def CX10_global_0 : List zEn := [(0, .iload_n 1, 1, 0, 0), (1, .iconst 1, 2, 1, 0), (2, .if_icmp .lt 14, 5, 0, 16), (5, .iload_n 1, 6, 0, 0), (6, .sipush 512, 9, 512, 0), (9, .if_icmp .gt 7, 12, 0, 16), (12, .iconst 1, 13, 1, 0), (13, .goto 4, 16, 0, 17), (16, .iconst 0, 17, 0, 0), (17, .invokestatic 59, 20, 0, 71), (20, .aload_n 0, 21, 0, 0), (21, .getfield 23, 24, 0, 48), (24, .iload_n 1, 25, 0, 0), (25, .invokevirtual 63, 28, 0, 105), (28, .ireturn, 29, 0, 0)]
def MX10_global : zMI := (yX10_global, cX10_global, 2, (some .int), [(99999, CX10_global_0)], [])
theorem DX10_global_0 : CX10_global_0.all (zchk cX10_global) = true := by decide +kernel
theorem OX10_global : zMOK MX10_global := by
  intro q hq e he
  simp only [MX10_global, zFt, List.mem_cons, List.not_mem_nil, or_false] at hq
  rcases hq with rfl
  · exact List.all_eq_true.mp DX10_global_0 e he
theorem KX10_global : zMK MX10_global := ⟨OX10_global, by decide +kernel, z_in (List.mem_of_getElem? (i := 599) (by decide +kernel)), z_in (List.mem_of_getElem? (i := 1) (by decide +kernel)), by decide +kernel, by decide +kernel⟩
theorem IX10_global : Jvm.Cond.instanceMethod yX10_global ∈ lw_tbl := z_in (List.mem_of_getElem? (i := 597) (by decide +kernel))
theorem VX10_global : Jvm.Cond.selects "ShadowWard" yX10_global yX10_global ∈ lw_tbl := z_in (List.mem_of_getElem? (i := 598) (by decide +kernel))
def CX10_enter_0 : List zEn := [(0, .iload_n 1, 1, 0, 0), (1, .invokestatic 67, 4, 0, 113), (4, .ifCond .eq 29, 7, 0, 33), (7, .iload_n 2, 8, 0, 0), (8, .invokestatic 67, 11, 0, 113), (11, .ifCond .eq 22, 14, 0, 33), (14, .iload_n 3, 15, 0, 0), (15, .invokestatic 67, 18, 0, 113), (18, .ifCond .eq 15, 21, 0, 33), (21, .iload 4, 23, 0, 0), (23, .invokestatic 67, 26, 0, 113), (26, .ifCond .eq 7, 29, 0, 33), (29, .iconst 1, 30, 1, 0), (30, .goto 4, 33, 0, 34), (33, .iconst 0, 34, 0, 0), (34, .invokestatic 59, 37, 0, 71), (37, .iload_n 1, 38, 0, 0), (38, .iload_n 2, 39, 0, 0), (39, .ior, 40, 0, 0), (40, .iload_n 3, 41, 0, 0), (41, .ior, 42, 0, 0), (42, .iload 4, 44, 0, 0), (44, .ior, 45, 0, 0), (45, .ifCond .eq 7, 48, 0, 52), (48, .iconst 1, 49, 1, 0), (49, .goto 4, 52, 0, 53), (52, .iconst 0, 53, 0, 0), (53, .invokestatic 59, 56, 0, 71), (56, .aload_n 0, 57, 0, 0), (57, .getfield 30, 60, 0, 49)]
def CX10_enter_1 : List zEn := [(60, .iload_n 1, 61, 0, 0), (61, .iload_n 2, 62, 0, 0), (62, .iload_n 3, 63, 0, 0), (63, .iload 4, 65, 0, 0), (65, .invokevirtual 71, 68, 0, 114), (68, .ireturn, 69, 0, 0)]
def MX10_enter : zMI := (yX10_enter, cX10_enter, 5, (some .int), [(60, CX10_enter_0), (99999, CX10_enter_1)], [])
theorem DX10_enter_0 : CX10_enter_0.all (zchk cX10_enter) = true := by decide +kernel
theorem DX10_enter_1 : CX10_enter_1.all (zchk cX10_enter) = true := by decide +kernel
theorem OX10_enter : zMOK MX10_enter := by
  intro q hq e he
  simp only [MX10_enter, zFt, List.mem_cons, List.not_mem_nil, or_false] at hq
  rcases hq with rfl | rfl
  · exact List.all_eq_true.mp DX10_enter_0 e he
  · exact List.all_eq_true.mp DX10_enter_1 e he
theorem KX10_enter : zMK MX10_enter := ⟨OX10_enter, by decide +kernel, z_in (List.mem_of_getElem? (i := 677) (by decide +kernel)), z_in (List.mem_of_getElem? (i := 1) (by decide +kernel)), by decide +kernel, by decide +kernel⟩
theorem IX10_enter : Jvm.Cond.instanceMethod yX10_enter ∈ lw_tbl := z_in (List.mem_of_getElem? (i := 675) (by decide +kernel))
theorem VX10_enter : Jvm.Cond.selects "ShadowWard" yX10_enter yX10_enter ∈ lw_tbl := z_in (List.mem_of_getElem? (i := 676) (by decide +kernel))
def CX10_leave_0 : List zEn := [(0, .aload_n 0, 1, 0, 0), (1, .getfield 30, 4, 0, 49), (4, .invokevirtual 75, 7, 0, 128), (7, .ifCond .ne 13, 10, 0, 20), (10, .new 79, 13, 0, 28), (13, .dup, 14, 0, 0), (14, .ldc 81, 16, 0, 0), (16, .invokespecial 83, 19, 0, 129), (19, .athrow, 20, 0, 0), (20, .aload_n 0, 21, 0, 0), (21, .getfield 30, 24, 0, 49), (24, .invokevirtual 86, 27, 0, 131), (27, .aload_n 0, 28, 0, 0), (28, .getfield 30, 31, 0, 49), (31, .invokevirtual 75, 34, 0, 128), (34, .ireturn, 35, 0, 0)]
def MX10_leave : zMI := (yX10_leave, cX10_leave, 1, (some .int), [(99999, CX10_leave_0)], [])
theorem DX10_leave_0 : CX10_leave_0.all (zchk cX10_leave) = true := by decide +kernel
theorem OX10_leave : zMOK MX10_leave := by
  intro q hq e he
  simp only [MX10_leave, zFt, List.mem_cons, List.not_mem_nil, or_false] at hq
  rcases hq with rfl
  · exact List.all_eq_true.mp DX10_leave_0 e he
theorem KX10_leave : zMK MX10_leave := ⟨OX10_leave, by decide +kernel, z_in (List.mem_of_getElem? (i := 748) (by decide +kernel)), z_in (List.mem_of_getElem? (i := 1) (by decide +kernel)), by decide +kernel, by decide +kernel⟩
theorem IX10_leave : Jvm.Cond.instanceMethod yX10_leave ∈ lw_tbl := z_in (List.mem_of_getElem? (i := 746) (by decide +kernel))
theorem VX10_leave : Jvm.Cond.selects "ShadowWard" yX10_leave yX10_leave ∈ lw_tbl := z_in (List.mem_of_getElem? (i := 747) (by decide +kernel))
def CX10_scope_0 : List zEn := [(0, .aload_n 0, 1, 0, 0), (1, .getfield 30, 4, 0, 49), (4, .aload_n 0, 5, 0, 0), (5, .iload_n 1, 6, 0, 0), (6, .iload_n 2, 7, 0, 0), (7, .invokevirtual 89, 10, 0, 137), (10, .iload_n 3, 11, 0, 0), (11, .invokevirtual 93, 14, 0, 142), (14, .ireturn, 15, 0, 0)]
def MX10_scope : zMI := (yX10_scope, cX10_scope, 4, (some .boolean), [(99999, CX10_scope_0)], [])
theorem DX10_scope_0 : CX10_scope_0.all (zchk cX10_scope) = true := by decide +kernel
theorem OX10_scope : zMOK MX10_scope := by
  intro q hq e he
  simp only [MX10_scope, zFt, List.mem_cons, List.not_mem_nil, or_false] at hq
  rcases hq with rfl
  · exact List.all_eq_true.mp DX10_scope_0 e he
theorem KX10_scope : zMK MX10_scope := ⟨OX10_scope, by decide +kernel, z_in (List.mem_of_getElem? (i := 786) (by decide +kernel)), z_in (List.mem_of_getElem? (i := 1) (by decide +kernel)), by decide +kernel, by decide +kernel⟩
theorem IX10_scope : Jvm.Cond.instanceMethod yX10_scope ∈ lw_tbl := z_in (List.mem_of_getElem? (i := 784) (by decide +kernel))
theorem VX10_scope : Jvm.Cond.selects "ShadowWard" yX10_scope yX10_scope ∈ lw_tbl := z_in (List.mem_of_getElem? (i := 785) (by decide +kernel))
def CX10_variable_0 : List zEn := [(0, .aload_n 0, 1, 0, 0), (1, .iload_n 1, 2, 0, 0), (2, .iload_n 2, 3, 0, 0), (3, .invokevirtual 89, 6, 0, 137), (6, .getfield 97, 9, 0, 80), (9, .ireturn, 10, 0, 0)]
def MX10_variable : zMI := (yX10_variable, cX10_variable, 3, (some .int), [(99999, CX10_variable_0)], [])
theorem DX10_variable_0 : CX10_variable_0.all (zchk cX10_variable) = true := by decide +kernel
theorem OX10_variable : zMOK MX10_variable := by
  intro q hq e he
  simp only [MX10_variable, zFt, List.mem_cons, List.not_mem_nil, or_false] at hq
  rcases hq with rfl
  · exact List.all_eq_true.mp DX10_variable_0 e he
theorem KX10_variable : zMK MX10_variable := ⟨OX10_variable, by decide +kernel, z_in (List.mem_of_getElem? (i := 823) (by decide +kernel)), z_in (List.mem_of_getElem? (i := 1) (by decide +kernel)), by decide +kernel, by decide +kernel⟩
theorem IX10_variable : Jvm.Cond.instanceMethod yX10_variable ∈ lw_tbl := z_in (List.mem_of_getElem? (i := 821) (by decide +kernel))
theorem VX10_variable : Jvm.Cond.selects "ShadowWard" yX10_variable yX10_variable ∈ lw_tbl := z_in (List.mem_of_getElem? (i := 822) (by decide +kernel))
def CX10_allocate_0 : List zEn := [(0, .iload_n 1, 1, 0, 0), (1, .invokestatic 103, 4, 0, 147), (4, .invokestatic 59, 7, 0, 71), (7, .aload_n 0, 8, 0, 0), (8, .iload_n 2, 9, 0, 0), (9, .invokevirtual 106, 12, 0, 70), (12, .invokestatic 59, 15, 0, 71), (15, .aload_n 0, 16, 0, 0), (16, .getfield 39, 19, 0, 50), (19, .iload_n 1, 20, 0, 0), (20, .iload_n 2, 21, 0, 0), (21, .iload_n 3, 22, 0, 0), (22, .invokevirtual 109, 25, 0, 148), (25, .astore 4, 27, 0, 0), (27, .aload 4, 29, 0, 0), (29, .ifnonnull 7, 32, 0, 36), (32, .iconst (-1), 33, (-1), 0), (33, .goto 8, 36, 0, 41), (36, .aload 4, 38, 0, 0), (38, .getfield 113, 41, 0, 83), (41, .ireturn, 42, 0, 0)]
def MX10_allocate : zMI := (yX10_allocate, cX10_allocate, 5, (some .int), [(99999, CX10_allocate_0)], [])
theorem DX10_allocate_0 : CX10_allocate_0.all (zchk cX10_allocate) = true := by decide +kernel
theorem OX10_allocate : zMOK MX10_allocate := by
  intro q hq e he
  simp only [MX10_allocate, zFt, List.mem_cons, List.not_mem_nil, or_false] at hq
  rcases hq with rfl
  · exact List.all_eq_true.mp DX10_allocate_0 e he
theorem KX10_allocate : zMK MX10_allocate := ⟨OX10_allocate, by decide +kernel, z_in (List.mem_of_getElem? (i := 830) (by decide +kernel)), z_in (List.mem_of_getElem? (i := 1) (by decide +kernel)), by decide +kernel, by decide +kernel⟩
theorem IX10_allocate : Jvm.Cond.instanceMethod yX10_allocate ∈ lw_tbl := z_in (List.mem_of_getElem? (i := 828) (by decide +kernel))
theorem VX10_allocate : Jvm.Cond.selects "ShadowWard" yX10_allocate yX10_allocate ∈ lw_tbl := z_in (List.mem_of_getElem? (i := 829) (by decide +kernel))
def CX10_free_0 : List zEn := [(0, .iload_n 1, 1, 0, 0), (1, .invokestatic 103, 4, 0, 147), (4, .invokestatic 59, 7, 0, 71), (7, .iload_n 2, 8, 0, 0), (8, .iconst (-1), 9, (-1), 0), (9, .if_icmp .ne 5, 12, 0, 14), (12, .iconst 0, 13, 0, 0), (13, .ireturn, 14, 0, 0), (14, .aload_n 0, 15, 0, 0), (15, .iload_n 1, 16, 0, 0), (16, .iload_n 2, 17, 0, 0), (17, .invokevirtual 116, 20, 0, 168), (20, .astore 4, 22, 0, 0), (22, .aload 4, 24, 0, 0), (24, .ifnonnull 5, 27, 0, 29), (27, .iconst 0, 28, 0, 0), (28, .ireturn, 29, 0, 0), (29, .aload_n 0, 30, 0, 0), (30, .getfield 39, 33, 0, 50), (33, .aload 4, 35, 0, 0), (35, .iload_n 3, 36, 0, 0), (36, .invokevirtual 120, 39, 0, 170), (39, .iconst 1, 40, 1, 0), (40, .ireturn, 41, 0, 0)]
def MX10_free : zMI := (yX10_free, cX10_free, 5, (some .boolean), [(99999, CX10_free_0)], [])
theorem DX10_free_0 : CX10_free_0.all (zchk cX10_free) = true := by decide +kernel
theorem OX10_free : zMOK MX10_free := by
  intro q hq e he
  simp only [MX10_free, zFt, List.mem_cons, List.not_mem_nil, or_false] at hq
  rcases hq with rfl
  · exact List.all_eq_true.mp DX10_free_0 e he
theorem KX10_free : zMK MX10_free := ⟨OX10_free, by decide +kernel, z_in (List.mem_of_getElem? (i := 919) (by decide +kernel)), z_in (List.mem_of_getElem? (i := 1) (by decide +kernel)), by decide +kernel, by decide +kernel⟩
theorem IX10_free : Jvm.Cond.instanceMethod yX10_free ∈ lw_tbl := z_in (List.mem_of_getElem? (i := 917) (by decide +kernel))
theorem VX10_free : Jvm.Cond.selects "ShadowWard" yX10_free yX10_free ∈ lw_tbl := z_in (List.mem_of_getElem? (i := 918) (by decide +kernel))
def CX10_resize_0 : List zEn := [(0, .aload_n 0, 1, 0, 0), (1, .iload_n 2, 2, 0, 0), (2, .invokevirtual 106, 5, 0, 70), (5, .invokestatic 59, 8, 0, 71), (8, .iload_n 1, 9, 0, 0), (9, .iconst (-1), 10, (-1), 0), (10, .if_icmp .ne 11, 13, 0, 21), (13, .aload_n 0, 14, 0, 0), (14, .iconst 0, 15, 0, 0), (15, .iload_n 2, 16, 0, 0), (16, .iload_n 3, 17, 0, 0), (17, .invokevirtual 124, 20, 0, 173), (20, .ireturn, 21, 0, 0), (21, .aload_n 0, 22, 0, 0), (22, .iconst 0, 23, 0, 0), (23, .iload_n 1, 24, 0, 0), (24, .invokevirtual 116, 27, 0, 168), (27, .astore 4, 29, 0, 0), (29, .aload 4, 31, 0, 0), (31, .ifnonnull 5, 34, 0, 36), (34, .iconst (-1), 35, (-1), 0), (35, .ireturn, 36, 0, 0), (36, .aload_n 0, 37, 0, 0), (37, .getfield 39, 40, 0, 50), (40, .iconst 0, 41, 0, 0), (41, .iload_n 2, 42, 0, 0), (42, .iload_n 3, 43, 0, 0), (43, .invokevirtual 109, 46, 0, 148), (46, .astore 5, 48, 0, 0), (48, .aload 5, 50, 0, 0)]
def CX10_resize_1 : List zEn := [(50, .ifnonnull 5, 53, 0, 55), (53, .iconst (-1), 54, (-1), 0), (54, .ireturn, 55, 0, 0), (55, .aload_n 0, 56, 0, 0), (56, .getfield 12, 59, 0, 47), (59, .aload 5, 61, 0, 0), (61, .getfield 113, 64, 0, 83), (64, .aload 4, 66, 0, 0), (66, .getfield 113, 69, 0, 83), (69, .aload 5, 71, 0, 0), (71, .getfield 128, 74, 0, 89), (74, .aload 4, 76, 0, 0), (76, .getfield 128, 79, 0, 89), (79, .invokestatic 131, 82, 0, 174), (82, .invokevirtual 137, 85, 0, 80), (85, .aload_n 0, 86, 0, 0), (86, .getfield 39, 89, 0, 50), (89, .aload 4, 91, 0, 0), (91, .iload_n 3, 92, 0, 0), (92, .invokevirtual 120, 95, 0, 170), (95, .aload 5, 97, 0, 0), (97, .getfield 113, 100, 0, 83), (100, .ireturn, 101, 0, 0)]
def MX10_resize : zMI := (yX10_resize, cX10_resize, 6, (some .int), [(50, CX10_resize_0), (99999, CX10_resize_1)], [])
theorem DX10_resize_0 : CX10_resize_0.all (zchk cX10_resize) = true := by decide +kernel
theorem DX10_resize_1 : CX10_resize_1.all (zchk cX10_resize) = true := by decide +kernel
theorem OX10_resize : zMOK MX10_resize := by
  intro q hq e he
  simp only [MX10_resize, zFt, List.mem_cons, List.not_mem_nil, or_false] at hq
  rcases hq with rfl | rfl
  · exact List.all_eq_true.mp DX10_resize_0 e he
  · exact List.all_eq_true.mp DX10_resize_1 e he
theorem KX10_resize : zMK MX10_resize := ⟨OX10_resize, by decide +kernel, z_in (List.mem_of_getElem? (i := 938) (by decide +kernel)), z_in (List.mem_of_getElem? (i := 1) (by decide +kernel)), by decide +kernel, by decide +kernel⟩
theorem IX10_resize : Jvm.Cond.instanceMethod yX10_resize ∈ lw_tbl := z_in (List.mem_of_getElem? (i := 936) (by decide +kernel))
theorem VX10_resize : Jvm.Cond.selects "ShadowWard" yX10_resize yX10_resize ∈ lw_tbl := z_in (List.mem_of_getElem? (i := 937) (by decide +kernel))
def CX10_load_0 : List zEn := [(0, .iload_n 2, 1, 0, 0), (1, .iconst 1, 2, 1, 0), (2, .if_icmp .lt 13, 5, 0, 15), (5, .iload_n 2, 6, 0, 0), (6, .bipush 8, 8, 8, 0), (8, .if_icmp .gt 7, 11, 0, 15), (11, .iconst 1, 12, 1, 0), (12, .goto 4, 15, 0, 16), (15, .iconst 0, 16, 0, 0), (16, .invokestatic 59, 19, 0, 71), (19, .aload_n 0, 20, 0, 0), (20, .iload_n 1, 21, 0, 0), (21, .iload_n 2, 22, 0, 0), (22, .iconst 0, 23, 0, 0), (23, .invokevirtual 141, 26, 0, 24), (26, .ifCond .eq 15, 29, 0, 41), (29, .aload_n 0, 30, 0, 0), (30, .getfield 12, 33, 0, 47), (33, .iload_n 1, 34, 0, 0), (34, .iload_n 2, 35, 0, 0), (35, .invokevirtual 145, 38, 0, 177), (38, .goto 4, 41, 0, 42), (41, .lconst 0, 42, 0, 0), (42, .lreturn, 43, 0, 0)]
def MX10_load : zMI := (yX10_load, cX10_load, 3, (some .long), [(99999, CX10_load_0)], [])
theorem DX10_load_0 : CX10_load_0.all (zchk cX10_load) = true := by decide +kernel
theorem OX10_load : zMOK MX10_load := by
  intro q hq e he
  simp only [MX10_load, zFt, List.mem_cons, List.not_mem_nil, or_false] at hq
  rcases hq with rfl
  · exact List.all_eq_true.mp DX10_load_0 e he
theorem KX10_load : zMK MX10_load := ⟨OX10_load, by decide +kernel, z_in (List.mem_of_getElem? (i := 947) (by decide +kernel)), z_in (List.mem_of_getElem? (i := 1) (by decide +kernel)), by decide +kernel, by decide +kernel⟩
theorem IX10_load : Jvm.Cond.instanceMethod yX10_load ∈ lw_tbl := z_in (List.mem_of_getElem? (i := 945) (by decide +kernel))
theorem VX10_load : Jvm.Cond.selects "ShadowWard" yX10_load yX10_load ∈ lw_tbl := z_in (List.mem_of_getElem? (i := 946) (by decide +kernel))
def CX10_store_0 : List zEn := [(0, .iload_n 2, 1, 0, 0), (1, .iconst 1, 2, 1, 0), (2, .if_icmp .lt 13, 5, 0, 15), (5, .iload_n 2, 6, 0, 0), (6, .bipush 8, 8, 8, 0), (8, .if_icmp .gt 7, 11, 0, 15), (11, .iconst 1, 12, 1, 0), (12, .goto 4, 15, 0, 16), (15, .iconst 0, 16, 0, 0), (16, .invokestatic 59, 19, 0, 71), (19, .aload_n 0, 20, 0, 0), (20, .iload_n 1, 21, 0, 0), (21, .iload_n 2, 22, 0, 0), (22, .iconst 1, 23, 1, 0), (23, .invokevirtual 141, 26, 0, 24), (26, .ifCond .ne 5, 29, 0, 31), (29, .iconst 0, 30, 0, 0), (30, .ireturn, 31, 0, 0), (31, .aload_n 0, 32, 0, 0), (32, .getfield 12, 35, 0, 47), (35, .iload_n 1, 36, 0, 0), (36, .iload_n 2, 37, 0, 0), (37, .lload_n 3, 38, 0, 0), (38, .invokevirtual 149, 41, 0, 180), (41, .iconst 1, 42, 1, 0), (42, .ireturn, 43, 0, 0)]
def MX10_store : zMI := (yX10_store, cX10_store, 5, (some .boolean), [(99999, CX10_store_0)], [])
theorem DX10_store_0 : CX10_store_0.all (zchk cX10_store) = true := by decide +kernel
theorem OX10_store : zMOK MX10_store := by
  intro q hq e he
  simp only [MX10_store, zFt, List.mem_cons, List.not_mem_nil, or_false] at hq
  rcases hq with rfl
  · exact List.all_eq_true.mp DX10_store_0 e he
theorem KX10_store : zMK MX10_store := ⟨OX10_store, by decide +kernel, z_in (List.mem_of_getElem? (i := 955) (by decide +kernel)), z_in (List.mem_of_getElem? (i := 1) (by decide +kernel)), by decide +kernel, by decide +kernel⟩
theorem IX10_store : Jvm.Cond.instanceMethod yX10_store ∈ lw_tbl := z_in (List.mem_of_getElem? (i := 953) (by decide +kernel))
theorem VX10_store : Jvm.Cond.selects "ShadowWard" yX10_store yX10_store ∈ lw_tbl := z_in (List.mem_of_getElem? (i := 954) (by decide +kernel))
def CX10_fill_0 : List zEn := [(0, .aload_n 0, 1, 0, 0), (1, .iload_n 2, 2, 0, 0), (2, .invokevirtual 106, 5, 0, 70), (5, .invokestatic 59, 8, 0, 71), (8, .aload_n 0, 9, 0, 0), (9, .iload_n 1, 10, 0, 0), (10, .iload_n 2, 11, 0, 0), (11, .iconst 1, 12, 1, 0), (12, .invokevirtual 141, 15, 0, 24), (15, .ifCond .ne 5, 18, 0, 20), (18, .iconst 0, 19, 0, 0), (19, .ireturn, 20, 0, 0), (20, .aload_n 0, 21, 0, 0), (21, .getfield 12, 24, 0, 47), (24, .iload_n 1, 25, 0, 0), (25, .iload_n 2, 26, 0, 0), (26, .iload_n 3, 27, 0, 0), (27, .invokevirtual 153, 30, 0, 183), (30, .iconst 1, 31, 1, 0), (31, .ireturn, 32, 0, 0)]
def MX10_fill : zMI := (yX10_fill, cX10_fill, 4, (some .boolean), [(99999, CX10_fill_0)], [])
theorem DX10_fill_0 : CX10_fill_0.all (zchk cX10_fill) = true := by decide +kernel
theorem OX10_fill : zMOK MX10_fill := by
  intro q hq e he
  simp only [MX10_fill, zFt, List.mem_cons, List.not_mem_nil, or_false] at hq
  rcases hq with rfl
  · exact List.all_eq_true.mp DX10_fill_0 e he
theorem KX10_fill : zMK MX10_fill := ⟨OX10_fill, by decide +kernel, z_in (List.mem_of_getElem? (i := 966) (by decide +kernel)), z_in (List.mem_of_getElem? (i := 1) (by decide +kernel)), by decide +kernel, by decide +kernel⟩
theorem IX10_fill : Jvm.Cond.instanceMethod yX10_fill ∈ lw_tbl := z_in (List.mem_of_getElem? (i := 964) (by decide +kernel))
theorem VX10_fill : Jvm.Cond.selects "ShadowWard" yX10_fill yX10_fill ∈ lw_tbl := z_in (List.mem_of_getElem? (i := 965) (by decide +kernel))
def CX10_copy_0 : List zEn := [(0, .aload_n 0, 1, 0, 0), (1, .iload_n 3, 2, 0, 0), (2, .invokevirtual 106, 5, 0, 70), (5, .invokestatic 59, 8, 0, 71), (8, .iload_n 1, 9, 0, 0), (9, .i2l, 10, 0, 0), (10, .iload_n 2, 11, 0, 0), (11, .i2l, 12, 0, 0), (12, .lsub, 13, 0, 0), (13, .invokestatic 156, 16, 0, 79), (16, .iload_n 3, 17, 0, 0), (17, .i2l, 18, 0, 0), (18, .lcmp, 19, 0, 0), (19, .ifCond .ge 7, 22, 0, 26), (22, .iconst 1, 23, 1, 0), (23, .goto 4, 26, 0, 27), (26, .iconst 0, 27, 0, 0), (27, .istore 5, 29, 0, 0), (29, .iload 5, 31, 0, 0), (31, .ifCond .eq 19, 34, 0, 50), (34, .iload 4, 36, 0, 0), (36, .ifCond .ne 14, 39, 0, 50), (39, .aload_n 0, 40, 0, 0), (40, .bipush 13, 42, 13, 0), (42, .iload_n 1, 43, 0, 0), (43, .iload_n 3, 44, 0, 0), (44, .iconst 1, 45, 1, 0), (45, .invokevirtual 160, 48, 0, 31), (48, .iconst 0, 49, 0, 0), (49, .ireturn, 50, 0, 0)]
def CX10_copy_1 : List zEn := [(50, .aload_n 0, 51, 0, 0), (51, .iload_n 2, 52, 0, 0), (52, .iload_n 3, 53, 0, 0), (53, .iconst 0, 54, 0, 0), (54, .invokevirtual 141, 57, 0, 24), (57, .ifCond .eq 13, 60, 0, 70), (60, .aload_n 0, 61, 0, 0), (61, .iload_n 1, 62, 0, 0), (62, .iload_n 3, 63, 0, 0), (63, .iconst 1, 64, 1, 0), (64, .invokevirtual 141, 67, 0, 24), (67, .ifCond .ne 5, 70, 0, 72), (70, .iconst 0, 71, 0, 0), (71, .ireturn, 72, 0, 0), (72, .aload_n 0, 73, 0, 0), (73, .getfield 12, 76, 0, 47), (76, .iload_n 1, 77, 0, 0), (77, .iload_n 2, 78, 0, 0), (78, .iload_n 3, 79, 0, 0), (79, .invokevirtual 137, 82, 0, 80), (82, .iconst 1, 83, 1, 0), (83, .ireturn, 84, 0, 0)]
def MX10_copy : zMI := (yX10_copy, cX10_copy, 6, (some .boolean), [(50, CX10_copy_0), (99999, CX10_copy_1)], [])
theorem DX10_copy_0 : CX10_copy_0.all (zchk cX10_copy) = true := by decide +kernel
theorem DX10_copy_1 : CX10_copy_1.all (zchk cX10_copy) = true := by decide +kernel
theorem OX10_copy : zMOK MX10_copy := by
  intro q hq e he
  simp only [MX10_copy, zFt, List.mem_cons, List.not_mem_nil, or_false] at hq
  rcases hq with rfl | rfl
  · exact List.all_eq_true.mp DX10_copy_0 e he
  · exact List.all_eq_true.mp DX10_copy_1 e he
theorem KX10_copy : zMK MX10_copy := ⟨OX10_copy, by decide +kernel, z_in (List.mem_of_getElem? (i := 437) (by decide +kernel)), z_in (List.mem_of_getElem? (i := 1) (by decide +kernel)), by decide +kernel, by decide +kernel⟩
theorem IX10_copy : Jvm.Cond.instanceMethod yX10_copy ∈ lw_tbl := z_in (List.mem_of_getElem? (i := 435) (by decide +kernel))
theorem VX10_copy : Jvm.Cond.selects "ShadowWard" yX10_copy yX10_copy ∈ lw_tbl := z_in (List.mem_of_getElem? (i := 436) (by decide +kernel))
def CX10_length_0 : List zEn := [(0, .iconst 0, 1, 0, 0), (1, .istore_n 2, 2, 0, 0), (2, .iload_n 2, 3, 0, 0), (3, .aload_n 0, 4, 0, 0), (4, .getfield 12, 7, 0, 47), (7, .getfield 164, 10, 0, 2), (10, .if_icmp .gt 38, 13, 0, 48), (13, .aload_n 0, 14, 0, 0), (14, .iload_n 1, 15, 0, 0), (15, .iload_n 2, 16, 0, 0), (16, .iadd, 17, 0, 0), (17, .iconst 1, 18, 1, 0), (18, .iconst 0, 19, 0, 0), (19, .invokevirtual 141, 22, 0, 24), (22, .ifCond .ne 5, 25, 0, 27), (25, .iconst (-1), 26, (-1), 0), (26, .ireturn, 27, 0, 0), (27, .aload_n 0, 28, 0, 0), (28, .getfield 12, 31, 0, 47), (31, .iload_n 1, 32, 0, 0), (32, .iload_n 2, 33, 0, 0), (33, .iadd, 34, 0, 0), (34, .invokevirtual 165, 37, 0, 66), (37, .ifCond .ne 5, 40, 0, 42), (40, .iload_n 2, 41, 0, 0), (41, .ireturn, 42, 0, 0), (42, .iinc 2 1, 45, 1, 0), (45, .goto (-43), 48, 0, 2), (48, .iconst (-1), 49, (-1), 0), (49, .ireturn, 50, 0, 0)]
def MX10_length : zMI := (yX10_length, cX10_length, 3, (some .int), [(99999, CX10_length_0)], [])
theorem DX10_length_0 : CX10_length_0.all (zchk cX10_length) = true := by decide +kernel
theorem OX10_length : zMOK MX10_length := by
  intro q hq e he
  simp only [MX10_length, zFt, List.mem_cons, List.not_mem_nil, or_false] at hq
  rcases hq with rfl
  · exact List.all_eq_true.mp DX10_length_0 e he
theorem KX10_length : zMK MX10_length := ⟨OX10_length, by decide +kernel, z_in (List.mem_of_getElem? (i := 230) (by decide +kernel)), z_in (List.mem_of_getElem? (i := 1) (by decide +kernel)), by decide +kernel, by decide +kernel⟩
theorem IX10_length : Jvm.Cond.instanceMethod yX10_length ∈ lw_tbl := z_in (List.mem_of_getElem? (i := 228) (by decide +kernel))
theorem VX10_length : Jvm.Cond.selects "ShadowWard" yX10_length yX10_length ∈ lw_tbl := z_in (List.mem_of_getElem? (i := 229) (by decide +kernel))
def CX10_text_0 : List zEn := [(0, .aload_n 0, 1, 0, 0), (1, .iload_n 2, 2, 0, 0), (2, .invokevirtual 168, 5, 0, 68), (5, .istore_n 3, 6, 0, 0), (6, .iload_n 3, 7, 0, 0), (7, .iconst (-1), 8, (-1), 0), (8, .if_icmp .ne 5, 11, 0, 13), (11, .iconst (-1), 12, (-1), 0), (12, .ireturn, 13, 0, 0), (13, .aload_n 0, 14, 0, 0), (14, .iload_n 1, 15, 0, 0), (15, .iload_n 2, 16, 0, 0), (16, .iload_n 3, 17, 0, 0), (17, .iconst 1, 18, 1, 0), (18, .iadd, 19, 0, 0), (19, .iconst 0, 20, 0, 0), (20, .invokevirtual 171, 23, 0, 69), (23, .ifCond .eq 7, 26, 0, 30), (26, .iload_n 3, 27, 0, 0), (27, .goto 4, 30, 0, 31), (30, .iconst (-1), 31, (-1), 0), (31, .ireturn, 32, 0, 0)]
def MX10_text : zMI := (yX10_text, cX10_text, 4, (some .int), [(99999, CX10_text_0)], [])
theorem DX10_text_0 : CX10_text_0.all (zchk cX10_text) = true := by decide +kernel
theorem OX10_text : zMOK MX10_text := by
  intro q hq e he
  simp only [MX10_text, zFt, List.mem_cons, List.not_mem_nil, or_false] at hq
  rcases hq with rfl
  · exact List.all_eq_true.mp DX10_text_0 e he
theorem KX10_text : zMK MX10_text := ⟨OX10_text, by decide +kernel, z_in (List.mem_of_getElem? (i := 432) (by decide +kernel)), z_in (List.mem_of_getElem? (i := 1) (by decide +kernel)), by decide +kernel, by decide +kernel⟩
theorem IX10_text : Jvm.Cond.instanceMethod yX10_text ∈ lw_tbl := z_in (List.mem_of_getElem? (i := 430) (by decide +kernel))
theorem VX10_text : Jvm.Cond.selects "ShadowWard" yX10_text yX10_text ∈ lw_tbl := z_in (List.mem_of_getElem? (i := 431) (by decide +kernel))
def CX10_compare_0 : List zEn := [(0, .aload_n 0, 1, 0, 0), (1, .iload_n 3, 2, 0, 0), (2, .invokevirtual 106, 5, 0, 70), (5, .invokestatic 59, 8, 0, 71), (8, .iconst 0, 9, 0, 0), (9, .istore 4, 11, 0, 0), (11, .iload 4, 13, 0, 0), (13, .iload_n 3, 14, 0, 0), (14, .if_icmp .ge 80, 17, 0, 94), (17, .aload_n 0, 18, 0, 0), (18, .iload_n 1, 19, 0, 0), (19, .iload 4, 21, 0, 0), (21, .iadd, 22, 0, 0), (22, .iconst 1, 23, 1, 0), (23, .iconst 0, 24, 0, 0), (24, .invokevirtual 141, 27, 0, 24), (27, .ifCond .eq 16, 30, 0, 43), (30, .aload_n 0, 31, 0, 0), (31, .iload_n 2, 32, 0, 0), (32, .iload 4, 34, 0, 0), (34, .iadd, 35, 0, 0), (35, .iconst 1, 36, 1, 0), (36, .iconst 0, 37, 0, 0), (37, .invokevirtual 141, 40, 0, 24), (40, .ifCond .ne 5, 43, 0, 45), (43, .iconst 2, 44, 2, 0), (44, .ireturn, 45, 0, 0), (45, .aload_n 0, 46, 0, 0), (46, .getfield 12, 49, 0, 47), (49, .iload_n 1, 50, 0, 0)]
def CX10_compare_1 : List zEn := [(50, .iload 4, 52, 0, 0), (52, .iadd, 53, 0, 0), (53, .invokevirtual 165, 56, 0, 66), (56, .aload_n 0, 57, 0, 0), (57, .getfield 12, 60, 0, 47), (60, .iload_n 2, 61, 0, 0), (61, .iload 4, 63, 0, 0), (63, .iadd, 64, 0, 0), (64, .invokevirtual 165, 67, 0, 66), (67, .invokestatic 175, 70, 0, 41), (70, .istore 5, 72, 0, 0), (72, .iload 5, 74, 0, 0), (74, .ifCond .eq 14, 77, 0, 88), (77, .iload 5, 79, 0, 0), (79, .ifCond .ge 7, 82, 0, 86), (82, .iconst (-1), 83, (-1), 0), (83, .goto 4, 86, 0, 87), (86, .iconst 1, 87, 1, 0), (87, .ireturn, 88, 0, 0), (88, .iinc 4 1, 91, 1, 0), (91, .goto (-80), 94, 0, 11), (94, .iconst 0, 95, 0, 0), (95, .ireturn, 96, 0, 0)]
def MX10_compare : zMI := (yX10_compare, cX10_compare, 6, (some .int), [(50, CX10_compare_0), (99999, CX10_compare_1)], [])
theorem DX10_compare_0 : CX10_compare_0.all (zchk cX10_compare) = true := by decide +kernel
theorem DX10_compare_1 : CX10_compare_1.all (zchk cX10_compare) = true := by decide +kernel
theorem OX10_compare : zMOK MX10_compare := by
  intro q hq e he
  simp only [MX10_compare, zFt, List.mem_cons, List.not_mem_nil, or_false] at hq
  rcases hq with rfl | rfl
  · exact List.all_eq_true.mp DX10_compare_0 e he
  · exact List.all_eq_true.mp DX10_compare_1 e he
theorem KX10_compare : zMK MX10_compare := ⟨OX10_compare, by decide +kernel, z_in (List.mem_of_getElem? (i := 978) (by decide +kernel)), z_in (List.mem_of_getElem? (i := 1) (by decide +kernel)), by decide +kernel, by decide +kernel⟩
theorem IX10_compare : Jvm.Cond.instanceMethod yX10_compare ∈ lw_tbl := z_in (List.mem_of_getElem? (i := 976) (by decide +kernel))
theorem VX10_compare : Jvm.Cond.selects "ShadowWard" yX10_compare yX10_compare ∈ lw_tbl := z_in (List.mem_of_getElem? (i := 977) (by decide +kernel))
def CX10_lock_0 : List zEn := [(0, .aload_n 0, 1, 0, 0), (1, .iload_n 2, 2, 0, 0), (2, .invokevirtual 106, 5, 0, 70), (5, .ifCond .eq 19, 8, 0, 24), (8, .aload_n 0, 9, 0, 0), (9, .getfield 12, 12, 0, 47), (12, .iload_n 1, 13, 0, 0), (13, .iload_n 2, 14, 0, 0), (14, .invokevirtual 180, 17, 0, 190), (17, .ifCond .eq 7, 20, 0, 24), (20, .iconst 1, 21, 1, 0), (21, .goto 4, 24, 0, 25), (24, .iconst 0, 25, 0, 0), (25, .invokestatic 59, 28, 0, 71), (28, .aload_n 0, 29, 0, 0), (29, .getfield 12, 32, 0, 47), (32, .iload_n 1, 33, 0, 0), (33, .iload_n 2, 34, 0, 0), (34, .iconst 0, 35, 0, 0), (35, .sipush 247, 38, 247, 0), (38, .invokevirtual 184, 41, 0, 191), (41, .ireturn, 42, 0, 0)]
def MX10_lock : zMI := (yX10_lock, cX10_lock, 3, (some .int), [(99999, CX10_lock_0)], [])
theorem DX10_lock_0 : CX10_lock_0.all (zchk cX10_lock) = true := by decide +kernel
theorem OX10_lock : zMOK MX10_lock := by
  intro q hq e he
  simp only [MX10_lock, zFt, List.mem_cons, List.not_mem_nil, or_false] at hq
  rcases hq with rfl
  · exact List.all_eq_true.mp DX10_lock_0 e he
theorem KX10_lock : zMK MX10_lock := ⟨OX10_lock, by decide +kernel, z_in (List.mem_of_getElem? (i := 985) (by decide +kernel)), z_in (List.mem_of_getElem? (i := 1) (by decide +kernel)), by decide +kernel, by decide +kernel⟩
theorem IX10_lock : Jvm.Cond.instanceMethod yX10_lock ∈ lw_tbl := z_in (List.mem_of_getElem? (i := 983) (by decide +kernel))
theorem VX10_lock : Jvm.Cond.selects "ShadowWard" yX10_lock yX10_lock ∈ lw_tbl := z_in (List.mem_of_getElem? (i := 984) (by decide +kernel))
def CX10_unlock_0 : List zEn := [(0, .aload_n 0, 1, 0, 0), (1, .iload_n 2, 2, 0, 0), (2, .invokevirtual 106, 5, 0, 70), (5, .ifCond .eq 19, 8, 0, 24), (8, .aload_n 0, 9, 0, 0), (9, .getfield 12, 12, 0, 47), (12, .iload_n 1, 13, 0, 0), (13, .iload_n 2, 14, 0, 0), (14, .invokevirtual 180, 17, 0, 190), (17, .ifCond .eq 7, 20, 0, 24), (20, .iconst 1, 21, 1, 0), (21, .goto 4, 24, 0, 25), (24, .iconst 0, 25, 0, 0), (25, .invokestatic 59, 28, 0, 71), (28, .aload_n 0, 29, 0, 0), (29, .getfield 12, 32, 0, 47), (32, .iload_n 1, 33, 0, 0), (33, .iload_n 2, 34, 0, 0), (34, .sipush 247, 37, 247, 0), (37, .iconst 0, 38, 0, 0), (38, .invokevirtual 184, 41, 0, 191), (41, .ireturn, 42, 0, 0)]
def MX10_unlock : zMI := (yX10_unlock, cX10_unlock, 3, (some .int), [(99999, CX10_unlock_0)], [])
theorem DX10_unlock_0 : CX10_unlock_0.all (zchk cX10_unlock) = true := by decide +kernel
theorem OX10_unlock : zMOK MX10_unlock := by
  intro q hq e he
  simp only [MX10_unlock, zFt, List.mem_cons, List.not_mem_nil, or_false] at hq
  rcases hq with rfl
  · exact List.all_eq_true.mp DX10_unlock_0 e he
theorem KX10_unlock : zMK MX10_unlock := ⟨OX10_unlock, by decide +kernel, z_in (List.mem_of_getElem? (i := 997) (by decide +kernel)), z_in (List.mem_of_getElem? (i := 1) (by decide +kernel)), by decide +kernel, by decide +kernel⟩
theorem IX10_unlock : Jvm.Cond.instanceMethod yX10_unlock ∈ lw_tbl := z_in (List.mem_of_getElem? (i := 995) (by decide +kernel))
theorem VX10_unlock : Jvm.Cond.selects "ShadowWard" yX10_unlock yX10_unlock ∈ lw_tbl := z_in (List.mem_of_getElem? (i := 996) (by decide +kernel))
def CX10_report_0 : List zEn := [(0, .iload_n 1, 1, 0, 0), (1, .aload_n 0, 2, 0, 0), (2, .getfield 55, 5, 0, 52), (5, .invokevirtual 187, 8, 0, 32), (8, .invokestatic 189, 11, 0, 138), (11, .iload_n 2, 12, 0, 0), (12, .ifCond .lt 13, 15, 0, 25), (15, .iload_n 2, 16, 0, 0), (16, .bipush 9, 18, 9, 0), (18, .if_icmp .gt 7, 21, 0, 25), (21, .iconst 1, 22, 1, 0), (22, .goto 4, 25, 0, 26), (25, .iconst 0, 26, 0, 0), (26, .invokestatic 59, 29, 0, 71), (29, .aload_n 0, 30, 0, 0), (30, .getfield 55, 33, 0, 52), (33, .iload_n 1, 34, 0, 0), (34, .invokevirtual 193, 37, 0, 141), (37, .checkcast 197, 40, 0, 15), (40, .iload_n 2, 41, 0, 0), (41, .invokevirtual 199, 44, 0, 196), (44, .ireturn, 45, 0, 0)]
def MX10_report : zMI := (yX10_report, cX10_report, 3, (some .int), [(99999, CX10_report_0)], [])
theorem DX10_report_0 : CX10_report_0.all (zchk cX10_report) = true := by decide +kernel
theorem OX10_report : zMOK MX10_report := by
  intro q hq e he
  simp only [MX10_report, zFt, List.mem_cons, List.not_mem_nil, or_false] at hq
  rcases hq with rfl
  · exact List.all_eq_true.mp DX10_report_0 e he
theorem KX10_report : zMK MX10_report := ⟨OX10_report, by decide +kernel, z_in (List.mem_of_getElem? (i := 1004) (by decide +kernel)), z_in (List.mem_of_getElem? (i := 1) (by decide +kernel)), by decide +kernel, by decide +kernel⟩
theorem IX10_report : Jvm.Cond.instanceMethod yX10_report ∈ lw_tbl := z_in (List.mem_of_getElem? (i := 1002) (by decide +kernel))
theorem VX10_report : Jvm.Cond.selects "ShadowWard" yX10_report yX10_report ∈ lw_tbl := z_in (List.mem_of_getElem? (i := 1003) (by decide +kernel))
def CX10_block_0 : List zEn := [(0, .iload_n 1, 1, 0, 0), (1, .aload_n 0, 2, 0, 0), (2, .getfield 39, 5, 0, 50), (5, .getfield 202, 8, 0, 31), (8, .invokevirtual 187, 11, 0, 32), (11, .invokestatic 189, 14, 0, 138), (14, .iload_n 2, 15, 0, 0), (15, .ifCond .lt 13, 18, 0, 28), (18, .iload_n 2, 19, 0, 0), (19, .bipush 7, 21, 7, 0), (21, .if_icmp .gt 7, 24, 0, 28), (24, .iconst 1, 25, 1, 0), (25, .goto 4, 28, 0, 29), (28, .iconst 0, 29, 0, 0), (29, .invokestatic 59, 32, 0, 71), (32, .aload_n 0, 33, 0, 0), (33, .getfield 39, 36, 0, 50), (36, .getfield 202, 39, 0, 31), (39, .iload_n 1, 40, 0, 0), (40, .invokevirtual 193, 43, 0, 141), (43, .checkcast 114, 46, 0, 33), (46, .iload_n 2, 47, 0, 0), (47, .invokevirtual 205, 50, 0, 199), (50, .ireturn, 51, 0, 0)]
def MX10_block : zMI := (yX10_block, cX10_block, 3, (some .int), [(99999, CX10_block_0)], [])
theorem DX10_block_0 : CX10_block_0.all (zchk cX10_block) = true := by decide +kernel
theorem OX10_block : zMOK MX10_block := by
  intro q hq e he
  simp only [MX10_block, zFt, List.mem_cons, List.not_mem_nil, or_false] at hq
  rcases hq with rfl
  · exact List.all_eq_true.mp DX10_block_0 e he
theorem KX10_block : zMK MX10_block := ⟨OX10_block, by decide +kernel, z_in (List.mem_of_getElem? (i := 1015) (by decide +kernel)), z_in (List.mem_of_getElem? (i := 1) (by decide +kernel)), by decide +kernel, by decide +kernel⟩
theorem IX10_block : Jvm.Cond.instanceMethod yX10_block ∈ lw_tbl := z_in (List.mem_of_getElem? (i := 1013) (by decide +kernel))
theorem VX10_block : Jvm.Cond.selects "ShadowWard" yX10_block yX10_block ∈ lw_tbl := z_in (List.mem_of_getElem? (i := 1014) (by decide +kernel))
def CX10_shadow_0 : List zEn := [(0, .iload_n 1, 1, 0, 0), (1, .aload_n 0, 2, 0, 0), (2, .getfield 12, 5, 0, 47), (5, .invokevirtual 206, 8, 0, 202), (8, .invokestatic 189, 11, 0, 138), (11, .aload_n 0, 12, 0, 0), (12, .getfield 12, 15, 0, 47), (15, .iload_n 1, 16, 0, 0), (16, .invokevirtual 209, 19, 0, 203), (19, .ireturn, 20, 0, 0)]
def MX10_shadow : zMI := (yX10_shadow, cX10_shadow, 2, (some .int), [(99999, CX10_shadow_0)], [])
theorem DX10_shadow_0 : CX10_shadow_0.all (zchk cX10_shadow) = true := by decide +kernel
theorem OX10_shadow : zMOK MX10_shadow := by
  intro q hq e he
  simp only [MX10_shadow, zFt, List.mem_cons, List.not_mem_nil, or_false] at hq
  rcases hq with rfl
  · exact List.all_eq_true.mp DX10_shadow_0 e he
theorem KX10_shadow : zMK MX10_shadow := ⟨OX10_shadow, by decide +kernel, z_in (List.mem_of_getElem? (i := 1027) (by decide +kernel)), z_in (List.mem_of_getElem? (i := 1) (by decide +kernel)), by decide +kernel, by decide +kernel⟩
theorem IX10_shadow : Jvm.Cond.instanceMethod yX10_shadow ∈ lw_tbl := z_in (List.mem_of_getElem? (i := 1025) (by decide +kernel))
theorem VX10_shadow : Jvm.Cond.selects "ShadowWard" yX10_shadow yX10_shadow ∈ lw_tbl := z_in (List.mem_of_getElem? (i := 1026) (by decide +kernel))
def CX10_peek_0 : List zEn := [(0, .iload_n 1, 1, 0, 0), (1, .aload_n 0, 2, 0, 0), (2, .getfield 12, 5, 0, 47), (5, .getfield 164, 8, 0, 2), (8, .invokestatic 189, 11, 0, 138), (11, .aload_n 0, 12, 0, 0), (12, .getfield 12, 15, 0, 47), (15, .iload_n 1, 16, 0, 0), (16, .invokevirtual 165, 19, 0, 66), (19, .ireturn, 20, 0, 0)]
def MX10_peek : zMI := (yX10_peek, cX10_peek, 2, (some .int), [(99999, CX10_peek_0)], [])
theorem DX10_peek_0 : CX10_peek_0.all (zchk cX10_peek) = true := by decide +kernel
theorem OX10_peek : zMOK MX10_peek := by
  intro q hq e he
  simp only [MX10_peek, zFt, List.mem_cons, List.not_mem_nil, or_false] at hq
  rcases hq with rfl
  · exact List.all_eq_true.mp DX10_peek_0 e he
theorem KX10_peek : zMK MX10_peek := ⟨OX10_peek, by decide +kernel, z_in (List.mem_of_getElem? (i := 1039) (by decide +kernel)), z_in (List.mem_of_getElem? (i := 1) (by decide +kernel)), by decide +kernel, by decide +kernel⟩
theorem IX10_peek : Jvm.Cond.instanceMethod yX10_peek ∈ lw_tbl := z_in (List.mem_of_getElem? (i := 1037) (by decide +kernel))
theorem VX10_peek : Jvm.Cond.selects "ShadowWard" yX10_peek yX10_peek ∈ lw_tbl := z_in (List.mem_of_getElem? (i := 1038) (by decide +kernel))
def CX10_held_0 : List zEn := [(0, .iload_n 1, 1, 0, 0), (1, .aload_n 0, 2, 0, 0), (2, .getfield 39, 5, 0, 50), (5, .getfield 212, 8, 0, 33), (8, .invokevirtual 187, 11, 0, 32), (11, .invokestatic 189, 14, 0, 138), (14, .aload_n 0, 15, 0, 0), (15, .getfield 39, 18, 0, 50), (18, .getfield 212, 21, 0, 33), (21, .iload_n 1, 22, 0, 0), (22, .invokevirtual 193, 25, 0, 141), (25, .checkcast 114, 28, 0, 33), (28, .getfield 215, 31, 0, 75), (31, .ireturn, 32, 0, 0)]
def MX10_held : zMI := (yX10_held, cX10_held, 2, (some .int), [(99999, CX10_held_0)], [])
theorem DX10_held_0 : CX10_held_0.all (zchk cX10_held) = true := by decide +kernel
theorem OX10_held : zMOK MX10_held := by
  intro q hq e he
  simp only [MX10_held, zFt, List.mem_cons, List.not_mem_nil, or_false] at hq
  rcases hq with rfl
  · exact List.all_eq_true.mp DX10_held_0 e he
theorem KX10_held : zMK MX10_held := ⟨OX10_held, by decide +kernel, z_in (List.mem_of_getElem? (i := 1046) (by decide +kernel)), z_in (List.mem_of_getElem? (i := 1) (by decide +kernel)), by decide +kernel, by decide +kernel⟩
theorem IX10_held : Jvm.Cond.instanceMethod yX10_held ∈ lw_tbl := z_in (List.mem_of_getElem? (i := 1044) (by decide +kernel))
theorem VX10_held : Jvm.Cond.selects "ShadowWard" yX10_held yX10_held ∈ lw_tbl := z_in (List.mem_of_getElem? (i := 1045) (by decide +kernel))
def CX10_lost_0 : List zEn := [(0, .aload_n 0, 1, 0, 0), (1, .getfield 48, 4, 0, 51), (4, .iload_n 1, 5, 0, 0), (5, .iload_n 2, 6, 0, 0), (6, .invokevirtual 217, 9, 0, 84), (9, .ireturn, 10, 0, 0)]
def MX10_lost : zMI := (yX10_lost, cX10_lost, 3, (some .int), [(99999, CX10_lost_0)], [])
theorem DX10_lost_0 : CX10_lost_0.all (zchk cX10_lost) = true := by decide +kernel
theorem OX10_lost : zMOK MX10_lost := by
  intro q hq e he
  simp only [MX10_lost, zFt, List.mem_cons, List.not_mem_nil, or_false] at hq
  rcases hq with rfl
  · exact List.all_eq_true.mp DX10_lost_0 e he
theorem KX10_lost : zMK MX10_lost := ⟨OX10_lost, by decide +kernel, z_in (List.mem_of_getElem? (i := 528) (by decide +kernel)), z_in (List.mem_of_getElem? (i := 1) (by decide +kernel)), by decide +kernel, by decide +kernel⟩
theorem IX10_lost : Jvm.Cond.instanceMethod yX10_lost ∈ lw_tbl := z_in (List.mem_of_getElem? (i := 526) (by decide +kernel))
theorem VX10_lost : Jvm.Cond.selects "ShadowWard" yX10_lost yX10_lost ∈ lw_tbl := z_in (List.mem_of_getElem? (i := 527) (by decide +kernel))
def CX10_told_0 : List zEn := [(0, .iload_n 1, 1, 0, 0), (1, .ifCond .lt 13, 4, 0, 14), (4, .iload_n 1, 5, 0, 0), (5, .bipush 11, 7, 11, 0), (7, .if_icmp .gt 7, 10, 0, 14), (10, .iconst 1, 11, 1, 0), (11, .goto 4, 14, 0, 15), (14, .iconst 0, 15, 0, 0), (15, .invokestatic 59, 18, 0, 71), (18, .iload_n 1, 19, 0, 0), (19, .tableswitch 154 0 10 #[57, 65, 73, 84, 92, 103, 111, 119, 130, 138, 146], 76, 0, 0), (76, .aload_n 0, 77, 0, 0), (77, .getfield 12, 80, 0, 47), (80, .getfield 164, 83, 0, 2), (83, .ireturn, 84, 0, 0), (84, .aload_n 0, 85, 0, 0), (85, .getfield 39, 88, 0, 50), (88, .getfield 221, 91, 0, 28), (91, .ireturn, 92, 0, 0), (92, .aload_n 0, 93, 0, 0), (93, .getfield 23, 96, 0, 48), (96, .getfield 224, 99, 0, 21), (99, .invokevirtual 187, 102, 0, 32), (102, .ireturn, 103, 0, 0), (103, .aload_n 0, 104, 0, 0), (104, .getfield 30, 107, 0, 49), (107, .invokevirtual 75, 110, 0, 128), (110, .ireturn, 111, 0, 0), (111, .aload_n 0, 112, 0, 0), (112, .getfield 39, 115, 0, 50)]
def CX10_told_1 : List zEn := [(115, .getfield 202, 118, 0, 31), (118, .invokevirtual 187, 121, 0, 32), (121, .ireturn, 122, 0, 0), (122, .aload_n 0, 123, 0, 0), (123, .getfield 39, 126, 0, 50), (126, .getfield 227, 129, 0, 37), (129, .ireturn, 130, 0, 0), (130, .aload_n 0, 131, 0, 0), (131, .getfield 55, 134, 0, 52), (134, .invokevirtual 187, 137, 0, 32), (137, .ireturn, 138, 0, 0), (138, .aload_n 0, 139, 0, 0), (139, .getfield 39, 142, 0, 50), (142, .getfield 212, 145, 0, 33), (145, .invokevirtual 187, 148, 0, 32), (148, .ireturn, 149, 0, 0), (149, .aload_n 0, 150, 0, 0), (150, .getfield 39, 153, 0, 50), (153, .getfield 230, 156, 0, 41), (156, .ireturn, 157, 0, 0), (157, .aload_n 0, 158, 0, 0), (158, .getfield 39, 161, 0, 50), (161, .getfield 233, 164, 0, 39), (164, .ireturn, 165, 0, 0), (165, .aload_n 0, 166, 0, 0), (166, .getfield 12, 169, 0, 47), (169, .invokevirtual 236, 172, 0, 210), (172, .ireturn, 173, 0, 0), (173, .aload_n 0, 174, 0, 0), (174, .getfield 48, 177, 0, 51)]
def CX10_told_2 : List zEn := [(177, .invokevirtual 239, 180, 0, 211), (180, .ireturn, 181, 0, 0)]
def MX10_told : zMI := (yX10_told, cX10_told, 2, (some .int), [(115, CX10_told_0), (177, CX10_told_1), (99999, CX10_told_2)], [])
theorem DX10_told_0 : CX10_told_0.all (zchk cX10_told) = true := by decide +kernel
theorem DX10_told_1 : CX10_told_1.all (zchk cX10_told) = true := by decide +kernel
theorem DX10_told_2 : CX10_told_2.all (zchk cX10_told) = true := by decide +kernel
theorem OX10_told : zMOK MX10_told := by
  intro q hq e he
  simp only [MX10_told, zFt, List.mem_cons, List.not_mem_nil, or_false] at hq
  rcases hq with rfl | rfl | rfl
  · exact List.all_eq_true.mp DX10_told_0 e he
  · exact List.all_eq_true.mp DX10_told_1 e he
  · exact List.all_eq_true.mp DX10_told_2 e he
theorem KX10_told : zMK MX10_told := ⟨OX10_told, by decide +kernel, z_in (List.mem_of_getElem? (i := 1053) (by decide +kernel)), z_in (List.mem_of_getElem? (i := 1) (by decide +kernel)), by decide +kernel, by decide +kernel⟩
theorem IX10_told : Jvm.Cond.instanceMethod yX10_told ∈ lw_tbl := z_in (List.mem_of_getElem? (i := 1051) (by decide +kernel))
theorem VX10_told : Jvm.Cond.selects "ShadowWard" yX10_told yX10_told ∈ lw_tbl := z_in (List.mem_of_getElem? (i := 1052) (by decide +kernel))
def CX10_demand_0 : List zEn := [(0, .iload_n 0, 1, 0, 0), (1, .ifCond .ne 13, 4, 0, 14), (4, .new 240, 7, 0, 19), (7, .dup, 8, 0, 0), (8, .ldc 242, 10, 0, 0), (10, .invokespecial 244, 13, 0, 75), (13, .athrow, 14, 0, 0), (14, .return_, 15, 0, 0)]
def MX10_demand : zMI := (yX10_demand, cX10_demand, 1, none, [(99999, CX10_demand_0)], [])
theorem DX10_demand_0 : CX10_demand_0.all (zchk cX10_demand) = true := by decide +kernel
theorem OX10_demand : zMOK MX10_demand := by
  intro q hq e he
  simp only [MX10_demand, zFt, List.mem_cons, List.not_mem_nil, or_false] at hq
  rcases hq with rfl
  · exact List.all_eq_true.mp DX10_demand_0 e he
theorem KX10_demand : zMK MX10_demand := ⟨OX10_demand, by decide +kernel, z_in (List.mem_of_getElem? (i := 444) (by decide +kernel)), z_in (List.mem_of_getElem? (i := 1) (by decide +kernel)), by decide +kernel, by decide +kernel⟩
theorem SX10_demand : Jvm.Cond.static yX10_demand ∈ lw_tbl := z_in (List.mem_of_getElem? (i := 443) (by decide +kernel))
def CX10_demandIndex_0 : List zEn := [(0, .iload_n 0, 1, 0, 0), (1, .ifCond .lt 8, 4, 0, 9), (4, .iload_n 0, 5, 0, 0), (5, .iload_n 1, 6, 0, 0), (6, .if_icmp .lt 13, 9, 0, 19), (9, .new 245, 12, 0, 30), (12, .dup, 13, 0, 0), (13, .ldc 247, 15, 0, 0), (15, .invokespecial 249, 18, 0, 139), (18, .athrow, 19, 0, 0), (19, .return_, 20, 0, 0)]
def MX10_demandIndex : zMI := (yX10_demandIndex, cX10_demandIndex, 2, none, [(99999, CX10_demandIndex_0)], [])
theorem DX10_demandIndex_0 : CX10_demandIndex_0.all (zchk cX10_demandIndex) = true := by decide +kernel
theorem OX10_demandIndex : zMOK MX10_demandIndex := by
  intro q hq e he
  simp only [MX10_demandIndex, zFt, List.mem_cons, List.not_mem_nil, or_false] at hq
  rcases hq with rfl
  · exact List.all_eq_true.mp DX10_demandIndex_0 e he
theorem KX10_demandIndex : zMK MX10_demandIndex := ⟨OX10_demandIndex, by decide +kernel, z_in (List.mem_of_getElem? (i := 793) (by decide +kernel)), z_in (List.mem_of_getElem? (i := 1) (by decide +kernel)), by decide +kernel, by decide +kernel⟩
theorem SX10_demandIndex : Jvm.Cond.static yX10_demandIndex ∈ lw_tbl := z_in (List.mem_of_getElem? (i := 792) (by decide +kernel))
def CX10_isVariableSize_0 : List zEn := [(0, .iload_n 0, 1, 0, 0), (1, .ifCond .lt 14, 4, 0, 15), (4, .iload_n 0, 5, 0, 0), (5, .sipush 128, 8, 128, 0), (8, .if_icmp .gt 7, 11, 0, 15), (11, .iconst 1, 12, 1, 0), (12, .goto 4, 15, 0, 16), (15, .iconst 0, 16, 0, 0), (16, .ireturn, 17, 0, 0)]
def MX10_isVariableSize : zMI := (yX10_isVariableSize, cX10_isVariableSize, 1, (some .boolean), [(99999, CX10_isVariableSize_0)], [])
theorem DX10_isVariableSize_0 : CX10_isVariableSize_0.all (zchk cX10_isVariableSize) = true := by decide +kernel
theorem OX10_isVariableSize : zMOK MX10_isVariableSize := by
  intro q hq e he
  simp only [MX10_isVariableSize, zFt, List.mem_cons, List.not_mem_nil, or_false] at hq
  rcases hq with rfl
  · exact List.all_eq_true.mp DX10_isVariableSize_0 e he
theorem KX10_isVariableSize : zMK MX10_isVariableSize := ⟨OX10_isVariableSize, by decide +kernel, z_in (List.mem_of_getElem? (i := 680) (by decide +kernel)), z_in (List.mem_of_getElem? (i := 1) (by decide +kernel)), by decide +kernel, by decide +kernel⟩
theorem SX10_isVariableSize : Jvm.Cond.static yX10_isVariableSize ∈ lw_tbl := z_in (List.mem_of_getElem? (i := 679) (by decide +kernel))
def CX10_isBlockKind_0 : List zEn := [(0, .iload_n 0, 1, 0, 0), (1, .ifCond .lt 12, 4, 0, 13), (4, .iload_n 0, 5, 0, 0), (5, .iconst 2, 6, 2, 0), (6, .if_icmp .gt 7, 9, 0, 13), (9, .iconst 1, 10, 1, 0), (10, .goto 4, 13, 0, 14), (13, .iconst 0, 14, 0, 0), (14, .ireturn, 15, 0, 0)]
def MX10_isBlockKind : zMI := (yX10_isBlockKind, cX10_isBlockKind, 1, (some .boolean), [(99999, CX10_isBlockKind_0)], [])
theorem DX10_isBlockKind_0 : CX10_isBlockKind_0.all (zchk cX10_isBlockKind) = true := by decide +kernel
theorem OX10_isBlockKind : zMOK MX10_isBlockKind := by
  intro q hq e he
  simp only [MX10_isBlockKind, zFt, List.mem_cons, List.not_mem_nil, or_false] at hq
  rcases hq with rfl
  · exact List.all_eq_true.mp DX10_isBlockKind_0 e he
theorem KX10_isBlockKind : zMK MX10_isBlockKind := ⟨OX10_isBlockKind, by decide +kernel, z_in (List.mem_of_getElem? (i := 833) (by decide +kernel)), z_in (List.mem_of_getElem? (i := 1) (by decide +kernel)), by decide +kernel, by decide +kernel⟩
theorem SX10_isBlockKind : Jvm.Cond.static yX10_isBlockKind ∈ lw_tbl := z_in (List.mem_of_getElem? (i := 832) (by decide +kernel))
def CX10_isCount_0 : List zEn := [(0, .iload_n 1, 1, 0, 0), (1, .ifCond .lt 18, 4, 0, 19), (4, .iload_n 1, 5, 0, 0), (5, .aload_n 0, 6, 0, 0), (6, .getfield 12, 9, 0, 47), (9, .getfield 164, 12, 0, 2), (12, .if_icmp .gt 7, 15, 0, 19), (15, .iconst 1, 16, 1, 0), (16, .goto 4, 19, 0, 20), (19, .iconst 0, 20, 0, 0), (20, .ireturn, 21, 0, 0)]
def MX10_isCount : zMI := (yX10_isCount, cX10_isCount, 2, (some .boolean), [(99999, CX10_isCount_0)], [])
theorem DX10_isCount_0 : CX10_isCount_0.all (zchk cX10_isCount) = true := by decide +kernel
theorem OX10_isCount : zMOK MX10_isCount := by
  intro q hq e he
  simp only [MX10_isCount, zFt, List.mem_cons, List.not_mem_nil, or_false] at hq
  rcases hq with rfl
  · exact List.all_eq_true.mp DX10_isCount_0 e he
theorem KX10_isCount : zMK MX10_isCount := ⟨OX10_isCount, by decide +kernel, z_in (List.mem_of_getElem? (i := 441) (by decide +kernel)), z_in (List.mem_of_getElem? (i := 1) (by decide +kernel)), by decide +kernel, by decide +kernel⟩
theorem IX10_isCount : Jvm.Cond.instanceMethod yX10_isCount ∈ lw_tbl := z_in (List.mem_of_getElem? (i := 440) (by decide +kernel))
theorem VX10_isCount : Jvm.Cond.selects "ShadowWard" yX10_isCount yX10_isCount ∈ lw_tbl := List.mem_append_left _ (List.mem_of_getElem? (i := 6) (by decide +kernel))
def CX10_roundUp_0 : List zEn := [(0, .iload_n 0, 1, 0, 0), (1, .iload_n 1, 2, 0, 0), (2, .iadd, 3, 0, 0), (3, .iconst 1, 4, 1, 0), (4, .isub, 5, 0, 0), (5, .iload_n 1, 6, 0, 0), (6, .ineg, 7, 0, 0), (7, .iand, 8, 0, 0), (8, .ireturn, 9, 0, 0)]
def MX10_roundUp : zMI := (yX10_roundUp, cX10_roundUp, 2, (some .int), [(99999, CX10_roundUp_0)], [])
theorem DX10_roundUp_0 : CX10_roundUp_0.all (zchk cX10_roundUp) = true := by decide +kernel
theorem OX10_roundUp : zMOK MX10_roundUp := by
  intro q hq e he
  simp only [MX10_roundUp, zFt, List.mem_cons, List.not_mem_nil, or_false] at hq
  rcases hq with rfl
  · exact List.all_eq_true.mp DX10_roundUp_0 e he
theorem KX10_roundUp : zMK MX10_roundUp := ⟨OX10_roundUp, by decide +kernel, z_in (List.mem_of_getElem? (i := 49) (by decide +kernel)), z_in (List.mem_of_getElem? (i := 1) (by decide +kernel)), by decide +kernel, by decide +kernel⟩
theorem SX10_roundUp : Jvm.Cond.static yX10_roundUp ∈ lw_tbl := z_in (List.mem_of_getElem? (i := 48) (by decide +kernel))
def CX10_variableOf_0 : List zEn := [(0, .iload_n 1, 1, 0, 0), (1, .aload_n 0, 2, 0, 0), (2, .getfield 30, 5, 0, 49), (5, .invokevirtual 75, 8, 0, 128), (8, .invokestatic 189, 11, 0, 138), (11, .aload_n 0, 12, 0, 0), (12, .getfield 30, 15, 0, 49), (15, .getfield 250, 18, 0, 25), (18, .iload_n 1, 19, 0, 0), (19, .invokevirtual 193, 22, 0, 141), (22, .checkcast 252, 25, 0, 31), (25, .getfield 254, 28, 0, 107), (28, .astore_n 3, 29, 0, 0), (29, .iload_n 2, 30, 0, 0), (30, .aload_n 3, 31, 0, 0), (31, .invokevirtual 187, 34, 0, 32), (34, .invokestatic 189, 37, 0, 138), (37, .aload_n 3, 38, 0, 0), (38, .iload_n 2, 39, 0, 0), (39, .invokevirtual 193, 42, 0, 141), (42, .checkcast 98, 45, 0, 32), (45, .areturn, 46, 0, 0)]
def MX10_variableOf : zMI := (yX10_variableOf, cX10_variableOf, 4, (some (.object "ShadowWard$Variable")), [(99999, CX10_variableOf_0)], [])
theorem DX10_variableOf_0 : CX10_variableOf_0.all (zchk cX10_variableOf) = true := by decide +kernel
theorem OX10_variableOf : zMOK MX10_variableOf := by
  intro q hq e he
  simp only [MX10_variableOf, zFt, List.mem_cons, List.not_mem_nil, or_false] at hq
  rcases hq with rfl
  · exact List.all_eq_true.mp DX10_variableOf_0 e he
theorem KX10_variableOf : zMK MX10_variableOf := ⟨OX10_variableOf, by decide +kernel, z_in (List.mem_of_getElem? (i := 790) (by decide +kernel)), z_in (List.mem_of_getElem? (i := 1) (by decide +kernel)), by decide +kernel, by decide +kernel⟩
theorem IX10_variableOf : Jvm.Cond.instanceMethod yX10_variableOf ∈ lw_tbl := z_in (List.mem_of_getElem? (i := 789) (by decide +kernel))
theorem VX10_variableOf : Jvm.Cond.selects "ShadowWard" yX10_variableOf yX10_variableOf ∈ lw_tbl := List.mem_append_left _ (List.mem_of_getElem? (i := 18) (by decide +kernel))
def CX10_blockToFree_0 : List zEn := [(0, .aload_n 0, 1, 0, 0), (1, .getfield 39, 4, 0, 50), (4, .iload_n 2, 5, 0, 0), (5, .invokevirtual 257, 8, 0, 169), (8, .astore_n 3, 9, 0, 0), (9, .aload_n 3, 10, 0, 0), (10, .ifnonnull 14, 13, 0, 24), (13, .aload_n 0, 14, 0, 0), (14, .bipush 11, 16, 11, 0), (16, .iload_n 2, 17, 0, 0), (17, .iconst 0, 18, 0, 0), (18, .iconst 1, 19, 1, 0), (19, .invokevirtual 160, 22, 0, 31), (22, .aconst_null, 23, 0, 0), (23, .areturn, 24, 0, 0), (24, .aload_n 3, 25, 0, 0), (25, .getfield 261, 28, 0, 119), (28, .iconst 1, 29, 1, 0), (29, .if_icmp .ne 14, 32, 0, 43), (32, .aload_n 0, 33, 0, 0), (33, .bipush 10, 35, 10, 0), (35, .iload_n 2, 36, 0, 0), (36, .iconst 0, 37, 0, 0), (37, .iconst 1, 38, 1, 0), (38, .invokevirtual 160, 41, 0, 31), (41, .aconst_null, 42, 0, 0), (42, .areturn, 43, 0, 0), (43, .aload_n 3, 44, 0, 0), (44, .getfield 264, 47, 0, 112), (47, .iload_n 1, 48, 0, 0)]
def CX10_blockToFree_1 : List zEn := [(48, .if_icmp .eq 14, 51, 0, 62), (51, .aload_n 0, 52, 0, 0), (52, .bipush 12, 54, 12, 0), (54, .iload_n 2, 55, 0, 0), (55, .iconst 0, 56, 0, 0), (56, .iconst 1, 57, 1, 0), (57, .invokevirtual 160, 60, 0, 31), (60, .aconst_null, 61, 0, 0), (61, .areturn, 62, 0, 0), (62, .aload_n 3, 63, 0, 0), (63, .areturn, 64, 0, 0)]
def MX10_blockToFree : zMI := (yX10_blockToFree, cX10_blockToFree, 4, (some (.object "ShadowWard$Block")), [(48, CX10_blockToFree_0), (99999, CX10_blockToFree_1)], [])
theorem DX10_blockToFree_0 : CX10_blockToFree_0.all (zchk cX10_blockToFree) = true := by decide +kernel
theorem DX10_blockToFree_1 : CX10_blockToFree_1.all (zchk cX10_blockToFree) = true := by decide +kernel
theorem OX10_blockToFree : zMOK MX10_blockToFree := by
  intro q hq e he
  simp only [MX10_blockToFree, zFt, List.mem_cons, List.not_mem_nil, or_false] at hq
  rcases hq with rfl | rfl
  · exact List.all_eq_true.mp DX10_blockToFree_0 e he
  · exact List.all_eq_true.mp DX10_blockToFree_1 e he
theorem KX10_blockToFree : zMK MX10_blockToFree := ⟨OX10_blockToFree, by decide +kernel, z_in (List.mem_of_getElem? (i := 923) (by decide +kernel)), z_in (List.mem_of_getElem? (i := 1) (by decide +kernel)), by decide +kernel, by decide +kernel⟩
theorem IX10_blockToFree : Jvm.Cond.instanceMethod yX10_blockToFree ∈ lw_tbl := z_in (List.mem_of_getElem? (i := 922) (by decide +kernel))
theorem VX10_blockToFree : Jvm.Cond.selects "ShadowWard" yX10_blockToFree yX10_blockToFree ∈ lw_tbl := List.mem_append_left _ (List.mem_of_getElem? (i := 23) (by decide +kernel))
def CX10_permits_0 : List zEn := [(0, .aload_n 0, 1, 0, 0), (1, .getfield 12, 4, 0, 47), (4, .iload_n 1, 5, 0, 0), (5, .iload_n 2, 6, 0, 0), (6, .invokevirtual 267, 9, 0, 25), (9, .istore 4, 11, 0, 0), (11, .iload 4, 13, 0, 0), (13, .iconst (-1), 14, (-1), 0), (14, .if_icmp .ne 5, 17, 0, 19), (17, .iconst 1, 18, 1, 0), (18, .ireturn, 19, 0, 0), (19, .iload_n 1, 20, 0, 0), (20, .iload 4, 22, 0, 0), (22, .iadd, 23, 0, 0), (23, .istore 5, 25, 0, 0), (25, .aload_n 0, 26, 0, 0), (26, .aload_n 0, 27, 0, 0), (27, .getfield 12, 30, 0, 47), (30, .iload 5, 32, 0, 0), (32, .invokevirtual 270, 35, 0, 30), (35, .iload 5, 37, 0, 0), (37, .iload_n 2, 38, 0, 0), (38, .iload_n 3, 39, 0, 0), (39, .invokevirtual 160, 42, 0, 31), (42, .iconst 0, 43, 0, 0), (43, .ireturn, 44, 0, 0)]
def MX10_permits : zMI := (yX10_permits, cX10_permits, 6, (some .boolean), [(99999, CX10_permits_0)], [])
theorem DX10_permits_0 : CX10_permits_0.all (zchk cX10_permits) = true := by decide +kernel
theorem OX10_permits : zMOK MX10_permits := by
  intro q hq e he
  simp only [MX10_permits, zFt, List.mem_cons, List.not_mem_nil, or_false] at hq
  rcases hq with rfl
  · exact List.all_eq_true.mp DX10_permits_0 e he
theorem KX10_permits : zMK MX10_permits := ⟨OX10_permits, by decide +kernel, z_in (List.mem_of_getElem? (i := 234) (by decide +kernel)), z_in (List.mem_of_getElem? (i := 1) (by decide +kernel)), by decide +kernel, by decide +kernel⟩
theorem IX10_permits : Jvm.Cond.instanceMethod yX10_permits ∈ lw_tbl := z_in (List.mem_of_getElem? (i := 233) (by decide +kernel))
theorem VX10_permits : Jvm.Cond.selects "ShadowWard" yX10_permits yX10_permits ∈ lw_tbl := List.mem_append_left _ (List.mem_of_getElem? (i := 0) (by decide +kernel))
def CX10_tell_0 : List zEn := [(0, .aload_n 0, 1, 0, 0), (1, .getfield 55, 4, 0, 52), (4, .invokevirtual 187, 7, 0, 32), (7, .sipush 512, 10, 512, 0), (10, .if_icmp .lt 4, 13, 0, 14), (13, .return_, 14, 0, 0), (14, .aconst_null, 15, 0, 0), (15, .astore 5, 17, 0, 0), (17, .aload_n 0, 18, 0, 0), (18, .getfield 12, 21, 0, 47), (21, .iload_n 2, 22, 0, 0), (22, .invokevirtual 273, 25, 0, 33), (25, .ifCond .eq 61, 28, 0, 86), (28, .iload_n 2, 29, 0, 0), (29, .aload_n 0, 30, 0, 0), (30, .getfield 12, 33, 0, 47), (33, .getfield 276, 36, 0, 6), (36, .if_icmp .ge 16, 39, 0, 52), (39, .aload_n 0, 40, 0, 0), (40, .getfield 23, 43, 0, 48), (43, .iload_n 2, 44, 0, 0), (44, .invokevirtual 279, 47, 0, 34), (47, .astore 5, 49, 0, 0), (49, .goto 37, 52, 0, 86), (52, .iload_n 2, 53, 0, 0), (53, .aload_n 0, 54, 0, 0), (54, .getfield 12, 57, 0, 47), (57, .getfield 283, 60, 0, 10), (60, .if_icmp .ge 16, 63, 0, 76), (63, .aload_n 0, 64, 0, 0)]
def CX10_tell_1 : List zEn := [(64, .getfield 30, 67, 0, 49), (67, .iload_n 2, 68, 0, 0), (68, .invokevirtual 286, 71, 0, 42), (71, .astore 5, 73, 0, 0), (73, .goto 13, 76, 0, 86), (76, .aload_n 0, 77, 0, 0), (77, .getfield 39, 80, 0, 50), (80, .iload_n 2, 81, 0, 0), (81, .invokevirtual 287, 84, 0, 46), (84, .astore 5, 86, 0, 0), (86, .aload_n 0, 87, 0, 0), (87, .getfield 55, 90, 0, 52), (90, .new 197, 93, 0, 15), (93, .dup, 94, 0, 0), (94, .iload_n 1, 95, 0, 0), (95, .iload_n 2, 96, 0, 0), (96, .iload_n 3, 97, 0, 0), (97, .iload 4, 99, 0, 0), (99, .aload 5, 101, 0, 0), (101, .invokespecial 288, 104, 0, 49), (104, .invokevirtual 291, 107, 0, 53), (107, .pop, 108, 0, 0), (108, .return_, 109, 0, 0)]
def MX10_tell : zMI := (yX10_tell, cX10_tell, 6, none, [(64, CX10_tell_0), (99999, CX10_tell_1)], [])
theorem DX10_tell_0 : CX10_tell_0.all (zchk cX10_tell) = true := by decide +kernel
theorem DX10_tell_1 : CX10_tell_1.all (zchk cX10_tell) = true := by decide +kernel
theorem OX10_tell : zMOK MX10_tell := by
  intro q hq e he
  simp only [MX10_tell, zFt, List.mem_cons, List.not_mem_nil, or_false] at hq
  rcases hq with rfl | rfl
  · exact List.all_eq_true.mp DX10_tell_0 e he
  · exact List.all_eq_true.mp DX10_tell_1 e he
theorem KX10_tell : zMK MX10_tell := ⟨OX10_tell, by decide +kernel, z_in (List.mem_of_getElem? (i := 262) (by decide +kernel)), z_in (List.mem_of_getElem? (i := 1) (by decide +kernel)), by decide +kernel, by decide +kernel⟩
theorem IX10_tell : Jvm.Cond.instanceMethod yX10_tell ∈ lw_tbl := z_in (List.mem_of_getElem? (i := 261) (by decide +kernel))
theorem VX10_tell : Jvm.Cond.selects "ShadowWard" yX10_tell yX10_tell ∈ lw_tbl := List.mem_append_left _ (List.mem_of_getElem? (i := 2) (by decide +kernel))
def CX10_nearer_0 : List zEn := [(0, .aload_n 0, 1, 0, 0), (1, .ifnonnull 5, 4, 0, 6), (4, .aload_n 1, 5, 0, 0), (5, .areturn, 6, 0, 0), (6, .aload_n 1, 7, 0, 0), (7, .iload_n 2, 8, 0, 0), (8, .invokevirtual 295, 11, 0, 40), (11, .aload_n 0, 12, 0, 0), (12, .iload_n 2, 13, 0, 0), (13, .invokevirtual 295, 16, 0, 40), (16, .invokestatic 175, 19, 0, 41), (19, .istore_n 3, 20, 0, 0), (20, .iload_n 3, 21, 0, 0), (21, .ifCond .ne 15, 24, 0, 36), (24, .aload_n 1, 25, 0, 0), (25, .getfield 300, 28, 0, 84), (28, .aload_n 0, 29, 0, 0), (29, .getfield 300, 32, 0, 84), (32, .invokestatic 175, 35, 0, 41), (35, .istore_n 3, 36, 0, 0), (36, .iload_n 3, 37, 0, 0), (37, .ifCond .ge 7, 40, 0, 44), (40, .aload_n 1, 41, 0, 0), (41, .goto 4, 44, 0, 45), (44, .aload_n 0, 45, 0, 0), (45, .areturn, 46, 0, 0)]
def MX10_nearer : zMI := (yX10_nearer, cX10_nearer, 4, (some (.object "ShadowWard$Region")), [(99999, CX10_nearer_0)], [])
theorem DX10_nearer_0 : CX10_nearer_0.all (zchk cX10_nearer) = true := by decide +kernel
theorem OX10_nearer : zMOK MX10_nearer := by
  intro q hq e he
  simp only [MX10_nearer, zFt, List.mem_cons, List.not_mem_nil, or_false] at hq
  rcases hq with rfl
  · exact List.all_eq_true.mp DX10_nearer_0 e he
theorem KX10_nearer : zMK MX10_nearer := ⟨OX10_nearer, by decide +kernel, z_in (List.mem_of_getElem? (i := 290) (by decide +kernel)), z_in (List.mem_of_getElem? (i := 1) (by decide +kernel)), by decide +kernel, by decide +kernel⟩
theorem SX10_nearer : Jvm.Cond.static yX10_nearer ∈ lw_tbl := z_in (List.mem_of_getElem? (i := 289) (by decide +kernel))
