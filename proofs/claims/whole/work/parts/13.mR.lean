def CX11_init_0 : List zEn := [(0, .aload_n 0, 1, 0, 0), (1, .invokespecial 1, 4, 0, 213), (4, .aload_n 0, 5, 0, 0), (5, .sipush 8192, 8, 8192, 0), (8, .newarray .byte, 10, 0, 0), (10, .putfield 7, 13, 0, 126), (13, .aload_n 0, 14, 0, 0), (14, .sipush 1024, 17, 1024, 0), (17, .newarray .int, 19, 0, 0), (19, .putfield 13, 22, 0, 127), (22, .aload_n 0, 23, 0, 0), (23, .bipush 40, 25, 40, 0), (25, .newarray .int, 27, 0, 0), (27, .putfield 17, 30, 0, 128), (30, .aload_n 0, 31, 0, 0), (31, .bipush 40, 33, 40, 0), (33, .newarray .int, 35, 0, 0), (35, .putfield 20, 38, 0, 129), (38, .aload_n 0, 39, 0, 0), (39, .bipush 24, 41, 24, 0), (41, .newarray .int, 43, 0, 0), (43, .putfield 23, 46, 0, 131), (46, .aload_n 0, 47, 0, 0), (47, .bipush 24, 49, 24, 0), (49, .newarray .int, 51, 0, 0), (51, .putfield 26, 54, 0, 132), (54, .aload_n 0, 55, 0, 0), (55, .bipush 24, 57, 24, 0), (57, .newarray .int, 59, 0, 0), (59, .putfield 29, 62, 0, 133)]
def CX11_init_1 : List zEn := [(62, .aload_n 0, 63, 0, 0), (63, .bipush 96, 65, 96, 0), (65, .newarray .int, 67, 0, 0), (67, .putfield 32, 70, 0, 134), (70, .aload_n 0, 71, 0, 0), (71, .bipush 96, 73, 96, 0), (73, .newarray .int, 75, 0, 0), (75, .putfield 35, 78, 0, 135), (78, .aload_n 0, 79, 0, 0), (79, .bipush 96, 81, 96, 0), (81, .newarray .boolean, 83, 0, 0), (83, .putfield 38, 86, 0, 136), (86, .aload_n 0, 87, 0, 0), (87, .sipush 520, 90, 520, 0), (90, .newarray .int, 92, 0, 0), (92, .putfield 42, 95, 0, 138), (95, .aload_n 0, 96, 0, 0), (96, .sipush 520, 99, 520, 0), (99, .newarray .int, 101, 0, 0), (101, .putfield 45, 104, 0, 139), (104, .aload_n 0, 105, 0, 0), (105, .sipush 520, 108, 520, 0), (108, .newarray .int, 110, 0, 0), (110, .putfield 48, 113, 0, 140), (113, .aload_n 0, 114, 0, 0), (114, .sipush 520, 117, 520, 0), (117, .newarray .int, 119, 0, 0), (119, .putfield 51, 122, 0, 141), (122, .aload_n 0, 123, 0, 0), (123, .sipush 520, 126, 520, 0)]
def CX11_init_2 : List zEn := [(126, .newarray .int, 128, 0, 0), (128, .putfield 54, 131, 0, 142), (131, .aload_n 0, 132, 0, 0), (132, .sipush 520, 135, 520, 0), (135, .newarray .int, 137, 0, 0), (137, .putfield 57, 140, 0, 143), (140, .aload_n 0, 141, 0, 0), (141, .sipush 520, 144, 520, 0), (144, .newarray .int, 146, 0, 0), (146, .putfield 60, 149, 0, 144), (149, .aload_n 0, 150, 0, 0), (150, .sipush 520, 153, 520, 0), (153, .newarray .int, 155, 0, 0), (155, .putfield 63, 158, 0, 145), (158, .aload_n 0, 159, 0, 0), (159, .sipush 520, 162, 520, 0), (162, .newarray .int, 164, 0, 0), (164, .putfield 66, 167, 0, 147), (167, .aload_n 0, 168, 0, 0), (168, .sipush 5300, 171, 5300, 0), (171, .newarray .int, 173, 0, 0), (173, .putfield 69, 176, 0, 149), (176, .aload_n 0, 177, 0, 0), (177, .sipush 520, 180, 520, 0), (180, .newarray .boolean, 182, 0, 0), (182, .putfield 72, 185, 0, 151), (185, .aload_n 0, 186, 0, 0), (186, .sipush 8192, 189, 8192, 0), (189, .newarray .byte, 191, 0, 0), (191, .putfield 75, 194, 0, 152)]
def CX11_init_3 : List zEn := [(194, .aload_n 0, 195, 0, 0), (195, .iload_n 1, 196, 0, 0), (196, .sipush 1024, 199, 1024, 0), (199, .if_icmp .lt 21, 202, 0, 220), (202, .iload_n 1, 203, 0, 0), (203, .sipush 8192, 206, 8192, 0), (206, .if_icmp .gt 14, 209, 0, 220), (209, .iload_n 1, 210, 0, 0), (210, .bipush 64, 212, 64, 0), (212, .irem, 213, 0, 0), (213, .ifCond .ne 7, 216, 0, 220), (216, .iload_n 1, 217, 0, 0), (217, .goto 6, 220, 0, 223), (220, .sipush 4096, 223, 4096, 0), (223, .putfield 78, 226, 0, 124), (226, .aload_n 0, 227, 0, 0), (227, .iload_n 2, 228, 0, 0), (228, .ifCond .lt 15, 231, 0, 243), (231, .iload_n 2, 232, 0, 0), (232, .aload_n 0, 233, 0, 0), (233, .getfield 78, 236, 0, 124), (236, .if_icmp .gt 7, 239, 0, 243), (239, .iload_n 2, 240, 0, 0), (240, .goto 6, 243, 0, 246), (243, .sipush 1024, 246, 1024, 0), (246, .putfield 82, 249, 0, 125), (249, .iconst 0, 250, 0, 0), (250, .istore_n 3, 251, 0, 0), (251, .iload_n 3, 252, 0, 0), (252, .aload_n 0, 253, 0, 0)]
def CX11_init_4 : List zEn := [(253, .getfield 78, 256, 0, 124), (256, .bipush 8, 258, 8, 0), (258, .idiv, 259, 0, 0), (259, .if_icmp .ge 55, 262, 0, 314), (262, .aload_n 0, 263, 0, 0), (263, .getfield 13, 266, 0, 127), (266, .iload_n 3, 267, 0, 0), (267, .bipush 8, 269, 8, 0), (269, .iload_n 3, 270, 0, 0), (270, .imul, 271, 0, 0), (271, .aload_n 0, 272, 0, 0), (272, .getfield 78, 275, 0, 124), (275, .bipush 8, 277, 8, 0), (277, .idiv, 278, 0, 0), (278, .if_icmp .ge 9, 281, 0, 287), (281, .sipush 249, 284, 249, 0), (284, .goto 23, 287, 0, 307), (287, .bipush 8, 289, 8, 0), (289, .iload_n 3, 290, 0, 0), (290, .imul, 291, 0, 0), (291, .aload_n 0, 292, 0, 0), (292, .getfield 78, 295, 0, 124), (295, .iconst 4, 296, 4, 0), (296, .idiv, 297, 0, 0), (297, .if_icmp .ge 7, 300, 0, 304), (300, .iconst 0, 301, 0, 0), (301, .goto 6, 304, 0, 307), (304, .sipush 250, 307, 250, 0), (307, .iastore, 308, 0, 0), (308, .iinc 3 1, 311, 1, 0)]
def CX11_init_5 : List zEn := [(311, .goto (-60), 314, 0, 251), (314, .return_, 315, 0, 0)]
def MX11_init : zMI := (yX11_init, cX11_init, 4, none, [(62, CX11_init_0), (126, CX11_init_1), (194, CX11_init_2), (253, CX11_init_3), (311, CX11_init_4), (99999, CX11_init_5)], [])
theorem DX11_init_0 : CX11_init_0.all (zchk cX11_init) = true := by decide +kernel
theorem DX11_init_1 : CX11_init_1.all (zchk cX11_init) = true := by decide +kernel
theorem DX11_init_2 : CX11_init_2.all (zchk cX11_init) = true := by decide +kernel
theorem DX11_init_3 : CX11_init_3.all (zchk cX11_init) = true := by decide +kernel
theorem DX11_init_4 : CX11_init_4.all (zchk cX11_init) = true := by decide +kernel
theorem DX11_init_5 : CX11_init_5.all (zchk cX11_init) = true := by decide +kernel
theorem OX11_init : zMOK MX11_init := by
  intro q hq e he
  simp only [MX11_init, zFt, List.mem_cons, List.not_mem_nil, or_false] at hq
  rcases hq with rfl | rfl | rfl | rfl | rfl | rfl
  · exact List.all_eq_true.mp DX11_init_0 e he
  · exact List.all_eq_true.mp DX11_init_1 e he
  · exact List.all_eq_true.mp DX11_init_2 e he
  · exact List.all_eq_true.mp DX11_init_3 e he
  · exact List.all_eq_true.mp DX11_init_4 e he
  · exact List.all_eq_true.mp DX11_init_5 e he
theorem KX11_init : zMK MX11_init := ⟨OX11_init, by decide +kernel, z_in (List.mem_of_getElem? (i := 1066) (by decide +kernel)), z_in (List.mem_of_getElem? (i := 11) (by decide +kernel)), by decide +kernel, by decide +kernel⟩
theorem IX11_init : Jvm.Cond.instanceMethod yX11_init ∈ lw_tbl := z_in (List.mem_of_getElem? (i := 1065) (by decide +kernel))
def CX11_thrown_0 : List zEn := [(0, .aload_n 0, 1, 0, 0), (1, .getfield 85, 4, 0, 123), (4, .ireturn, 5, 0, 0)]
def MX11_thrown : zMI := (yX11_thrown, cX11_thrown, 1, (some .int), [(99999, CX11_thrown_0)], [])
theorem DX11_thrown_0 : CX11_thrown_0.all (zchk cX11_thrown) = true := by decide +kernel
theorem OX11_thrown : zMOK MX11_thrown := by
  intro q hq e he
  simp only [MX11_thrown, zFt, List.mem_cons, List.not_mem_nil, or_false] at hq
  rcases hq with rfl
  · exact List.all_eq_true.mp DX11_thrown_0 e he
theorem KX11_thrown : zMK MX11_thrown := ⟨OX11_thrown, by decide +kernel, z_in (List.mem_of_getElem? (i := 1163) (by decide +kernel)), z_in (List.mem_of_getElem? (i := 11) (by decide +kernel)), by decide +kernel, by decide +kernel⟩
theorem IX11_thrown : Jvm.Cond.instanceMethod yX11_thrown ∈ lw_tbl := z_in (List.mem_of_getElem? (i := 1161) (by decide +kernel))
theorem VX11_thrown : Jvm.Cond.selects "ShadowWardModel" yX11_thrown yX11_thrown ∈ lw_tbl := z_in (List.mem_of_getElem? (i := 1162) (by decide +kernel))
def CX11_refuses_0 : List zEn := [(0, .aload_n 0, 1, 0, 0), (1, .iload_n 1, 2, 0, 0), (2, .putfield 85, 5, 0, 123), (5, .iload_n 1, 6, 0, 0), (6, .ifCond .eq 7, 9, 0, 13), (9, .iconst 1, 10, 1, 0), (10, .goto 4, 13, 0, 14), (13, .iconst 0, 14, 0, 0), (14, .ireturn, 15, 0, 0)]
def MX11_refuses : zMI := (yX11_refuses, cX11_refuses, 2, (some .boolean), [(99999, CX11_refuses_0)], [])
theorem DX11_refuses_0 : CX11_refuses_0.all (zchk cX11_refuses) = true := by decide +kernel
theorem OX11_refuses : zMOK MX11_refuses := by
  intro q hq e he
  simp only [MX11_refuses, zFt, List.mem_cons, List.not_mem_nil, or_false] at hq
  rcases hq with rfl
  · exact List.all_eq_true.mp DX11_refuses_0 e he
theorem KX11_refuses : zMK MX11_refuses := ⟨OX11_refuses, by decide +kernel, z_in (List.mem_of_getElem? (i := 1171) (by decide +kernel)), z_in (List.mem_of_getElem? (i := 11) (by decide +kernel)), by decide +kernel, by decide +kernel⟩
theorem IX11_refuses : Jvm.Cond.instanceMethod yX11_refuses ∈ lw_tbl := z_in (List.mem_of_getElem? (i := 1170) (by decide +kernel))
theorem VX11_refuses : Jvm.Cond.selects "ShadowWardModel" yX11_refuses yX11_refuses ∈ lw_tbl := List.mem_append_left _ (List.mem_of_getElem? (i := 24) (by decide +kernel))
def CX11_paint_0 : List zEn := [(0, .iload_n 1, 1, 0, 0), (1, .bipush 8, 3, 8, 0), (3, .idiv, 4, 0, 0), (4, .istore 4, 6, 0, 0), (6, .iload 4, 8, 0, 0), (8, .iload_n 2, 9, 0, 0), (9, .bipush 7, 11, 7, 0), (11, .iadd, 12, 0, 0), (12, .bipush 8, 14, 8, 0), (14, .idiv, 15, 0, 0), (15, .if_icmp .ge 17, 18, 0, 32), (18, .aload_n 0, 19, 0, 0), (19, .getfield 13, 22, 0, 127), (22, .iload 4, 24, 0, 0), (24, .iload_n 3, 25, 0, 0), (25, .iastore, 26, 0, 0), (26, .iinc 4 1, 29, 1, 0), (29, .goto (-23), 32, 0, 6), (32, .return_, 33, 0, 0)]
def MX11_paint : zMI := (yX11_paint, cX11_paint, 5, none, [(99999, CX11_paint_0)], [])
theorem DX11_paint_0 : CX11_paint_0.all (zchk cX11_paint) = true := by decide +kernel
theorem OX11_paint : zMOK MX11_paint := by
  intro q hq e he
  simp only [MX11_paint, zFt, List.mem_cons, List.not_mem_nil, or_false] at hq
  rcases hq with rfl
  · exact List.all_eq_true.mp DX11_paint_0 e he
theorem KX11_paint : zMK MX11_paint := ⟨OX11_paint, by decide +kernel, z_in (List.mem_of_getElem? (i := 1189) (by decide +kernel)), z_in (List.mem_of_getElem? (i := 11) (by decide +kernel)), by decide +kernel, by decide +kernel⟩
theorem IX11_paint : Jvm.Cond.instanceMethod yX11_paint ∈ lw_tbl := z_in (List.mem_of_getElem? (i := 1188) (by decide +kernel))
theorem VX11_paint : Jvm.Cond.selects "ShadowWardModel" yX11_paint yX11_paint ∈ lw_tbl := List.mem_append_left _ (List.mem_of_getElem? (i := 26) (by decide +kernel))
def CX11_opens_0 : List zEn := [(0, .iconst 0, 1, 0, 0), (1, .istore_n 3, 2, 0, 0), (2, .iload_n 3, 3, 0, 0), (3, .iload_n 2, 4, 0, 0), (4, .if_icmp .ge 35, 7, 0, 39), (7, .aload_n 0, 8, 0, 0), (8, .getfield 13, 11, 0, 127), (11, .iload_n 1, 12, 0, 0), (12, .iload_n 3, 13, 0, 0), (13, .iadd, 14, 0, 0), (14, .bipush 8, 16, 8, 0), (16, .idiv, 17, 0, 0), (17, .iload_n 2, 18, 0, 0), (18, .iload_n 3, 19, 0, 0), (19, .isub, 20, 0, 0), (20, .bipush 8, 22, 8, 0), (22, .if_icmp .lt 7, 25, 0, 29), (25, .iconst 0, 26, 0, 0), (26, .goto 6, 29, 0, 32), (29, .iload_n 2, 30, 0, 0), (30, .iload_n 3, 31, 0, 0), (31, .isub, 32, 0, 0), (32, .iastore, 33, 0, 0), (33, .iinc 3 8, 36, 8, 0), (36, .goto (-34), 39, 0, 2), (39, .return_, 40, 0, 0)]
def MX11_opens : zMI := (yX11_opens, cX11_opens, 4, none, [(99999, CX11_opens_0)], [])
theorem DX11_opens_0 : CX11_opens_0.all (zchk cX11_opens) = true := by decide +kernel
theorem OX11_opens : zMOK MX11_opens := by
  intro q hq e he
  simp only [MX11_opens, zFt, List.mem_cons, List.not_mem_nil, or_false] at hq
  rcases hq with rfl
  · exact List.all_eq_true.mp DX11_opens_0 e he
theorem KX11_opens : zMK MX11_opens := ⟨OX11_opens, by decide +kernel, z_in (List.mem_of_getElem? (i := 1175) (by decide +kernel)), z_in (List.mem_of_getElem? (i := 11) (by decide +kernel)), by decide +kernel, by decide +kernel⟩
theorem IX11_opens : Jvm.Cond.instanceMethod yX11_opens ∈ lw_tbl := z_in (List.mem_of_getElem? (i := 1174) (by decide +kernel))
theorem VX11_opens : Jvm.Cond.selects "ShadowWardModel" yX11_opens yX11_opens ∈ lw_tbl := List.mem_append_left _ (List.mem_of_getElem? (i := 25) (by decide +kernel))
def CX11_global_0 : List zEn := [(0, .aload_n 0, 1, 0, 0), (1, .iload_n 1, 2, 0, 0), (2, .iconst 1, 3, 1, 0), (3, .if_icmp .lt 10, 6, 0, 13), (6, .iload_n 1, 7, 0, 0), (7, .sipush 512, 10, 512, 0), (10, .if_icmp .le 7, 13, 0, 17), (13, .iconst 1, 14, 1, 0), (14, .goto 4, 17, 0, 18), (17, .iconst 0, 18, 0, 0), (18, .invokevirtual 88, 21, 0, 216), (21, .ifCond .eq 5, 24, 0, 26), (24, .iconst 0, 25, 0, 0), (25, .ireturn, 26, 0, 0), (26, .iconst 0, 27, 0, 0), (27, .istore_n 2, 28, 0, 0), (28, .aload_n 0, 29, 0, 0), (29, .getfield 92, 32, 0, 130), (32, .ifCond .le 39, 35, 0, 71), (35, .aload_n 0, 36, 0, 0), (36, .getfield 17, 39, 0, 128), (39, .aload_n 0, 40, 0, 0), (40, .getfield 92, 43, 0, 130), (43, .iconst 1, 44, 1, 0), (44, .isub, 45, 0, 0), (45, .iaload, 46, 0, 0), (46, .aload_n 0, 47, 0, 0), (47, .getfield 20, 50, 0, 129), (50, .aload_n 0, 51, 0, 0), (51, .getfield 92, 54, 0, 130)]
def CX11_global_1 : List zEn := [(54, .iconst 1, 55, 1, 0), (55, .isub, 56, 0, 0), (56, .iaload, 57, 0, 0), (57, .iadd, 58, 0, 0), (58, .bipush 32, 60, 32, 0), (60, .iadd, 61, 0, 0), (61, .bipush 31, 63, 31, 0), (63, .iadd, 64, 0, 0), (64, .bipush 32, 66, 32, 0), (66, .idiv, 67, 0, 0), (67, .bipush 32, 69, 32, 0), (69, .imul, 70, 0, 0), (70, .istore_n 2, 71, 0, 0), (71, .iload_n 2, 72, 0, 0), (72, .iload_n 1, 73, 0, 0), (73, .iadd, 74, 0, 0), (74, .bipush 32, 76, 32, 0), (76, .iadd, 77, 0, 0), (77, .aload_n 0, 78, 0, 0), (78, .getfield 78, 81, 0, 124), (81, .bipush 8, 83, 8, 0), (83, .idiv, 84, 0, 0), (84, .if_icmp .le 5, 87, 0, 89), (87, .iconst (-1), 88, (-1), 0), (88, .ireturn, 89, 0, 0), (89, .aload_n 0, 90, 0, 0), (90, .getfield 17, 93, 0, 128), (93, .aload_n 0, 94, 0, 0), (94, .getfield 92, 97, 0, 130), (97, .iload_n 2, 98, 0, 0)]
def CX11_global_2 : List zEn := [(98, .iastore, 99, 0, 0), (99, .aload_n 0, 100, 0, 0), (100, .getfield 20, 103, 0, 129), (103, .aload_n 0, 104, 0, 0), (104, .dup, 105, 0, 0), (105, .getfield 92, 108, 0, 130), (108, .dup_x1, 109, 0, 0), (109, .iconst 1, 110, 1, 0), (110, .iadd, 111, 0, 0), (111, .putfield 92, 114, 0, 130), (114, .iload_n 1, 115, 0, 0), (115, .iastore, 116, 0, 0), (116, .aload_n 0, 117, 0, 0), (117, .iload_n 2, 118, 0, 0), (118, .iload_n 1, 119, 0, 0), (119, .invokevirtual 95, 122, 0, 217), (122, .iload_n 2, 123, 0, 0), (123, .ireturn, 124, 0, 0)]
def MX11_global : zMI := (yX11_global, cX11_global, 3, (some .int), [(54, CX11_global_0), (98, CX11_global_1), (99999, CX11_global_2)], [])
theorem DX11_global_0 : CX11_global_0.all (zchk cX11_global) = true := by decide +kernel
theorem DX11_global_1 : CX11_global_1.all (zchk cX11_global) = true := by decide +kernel
theorem DX11_global_2 : CX11_global_2.all (zchk cX11_global) = true := by decide +kernel
theorem OX11_global : zMOK MX11_global := by
  intro q hq e he
  simp only [MX11_global, zFt, List.mem_cons, List.not_mem_nil, or_false] at hq
  rcases hq with rfl | rfl | rfl
  · exact List.all_eq_true.mp DX11_global_0 e he
  · exact List.all_eq_true.mp DX11_global_1 e he
  · exact List.all_eq_true.mp DX11_global_2 e he
theorem KX11_global : zMK MX11_global := ⟨OX11_global, by decide +kernel, z_in (List.mem_of_getElem? (i := 1167) (by decide +kernel)), z_in (List.mem_of_getElem? (i := 11) (by decide +kernel)), by decide +kernel, by decide +kernel⟩
theorem IX11_global : Jvm.Cond.instanceMethod yX11_global ∈ lw_tbl := z_in (List.mem_of_getElem? (i := 1165) (by decide +kernel))
theorem VX11_global : Jvm.Cond.selects "ShadowWardModel" yX11_global yX11_global ∈ lw_tbl := z_in (List.mem_of_getElem? (i := 1166) (by decide +kernel))
def CX11_padded_0 : List zEn := [(0, .iload_n 0, 1, 0, 0), (1, .bipush 31, 3, 31, 0), (3, .iadd, 4, 0, 0), (4, .bipush 32, 6, 32, 0), (6, .idiv, 7, 0, 0), (7, .bipush 32, 9, 32, 0), (9, .imul, 10, 0, 0), (10, .bipush 32, 12, 32, 0), (12, .iadd, 13, 0, 0), (13, .ireturn, 14, 0, 0)]
def MX11_padded : zMI := (yX11_padded, cX11_padded, 1, (some .int), [(99999, CX11_padded_0)], [])
theorem DX11_padded_0 : CX11_padded_0.all (zchk cX11_padded) = true := by decide +kernel
theorem OX11_padded : zMOK MX11_padded := by
  intro q hq e he
  simp only [MX11_padded, zFt, List.mem_cons, List.not_mem_nil, or_false] at hq
  rcases hq with rfl
  · exact List.all_eq_true.mp DX11_padded_0 e he
theorem KX11_padded : zMK MX11_padded := ⟨OX11_padded, by decide +kernel, z_in (List.mem_of_getElem? (i := 1185) (by decide +kernel)), z_in (List.mem_of_getElem? (i := 11) (by decide +kernel)), by decide +kernel, by decide +kernel⟩
theorem SX11_padded : Jvm.Cond.static yX11_padded ∈ lw_tbl := z_in (List.mem_of_getElem? (i := 1184) (by decide +kernel))
def CX11_isSize_0 : List zEn := [(0, .iload_n 0, 1, 0, 0), (1, .ifCond .lt 14, 4, 0, 15), (4, .iload_n 0, 5, 0, 0), (5, .sipush 128, 8, 128, 0), (8, .if_icmp .gt 7, 11, 0, 15), (11, .iconst 1, 12, 1, 0), (12, .goto 4, 15, 0, 16), (15, .iconst 0, 16, 0, 0), (16, .ireturn, 17, 0, 0)]
def MX11_isSize : zMI := (yX11_isSize, cX11_isSize, 1, (some .boolean), [(99999, CX11_isSize_0)], [])
theorem DX11_isSize_0 : CX11_isSize_0.all (zchk cX11_isSize) = true := by decide +kernel
theorem OX11_isSize : zMOK MX11_isSize := by
  intro q hq e he
  simp only [MX11_isSize, zFt, List.mem_cons, List.not_mem_nil, or_false] at hq
  rcases hq with rfl
  · exact List.all_eq_true.mp DX11_isSize_0 e he
theorem KX11_isSize : zMK MX11_isSize := ⟨OX11_isSize, by decide +kernel, z_in (List.mem_of_getElem? (i := 1182) (by decide +kernel)), z_in (List.mem_of_getElem? (i := 11) (by decide +kernel)), by decide +kernel, by decide +kernel⟩
theorem SX11_isSize : Jvm.Cond.static yX11_isSize ∈ lw_tbl := z_in (List.mem_of_getElem? (i := 1181) (by decide +kernel))
def CX11_enter_0 : List zEn := [(0, .aload_n 0, 1, 0, 0), (1, .iload_n 1, 2, 0, 0), (2, .invokestatic 99, 5, 0, 219), (5, .ifCond .eq 36, 8, 0, 41), (8, .iload_n 2, 9, 0, 0), (9, .invokestatic 99, 12, 0, 219), (12, .ifCond .eq 29, 15, 0, 41), (15, .iload_n 3, 16, 0, 0), (16, .invokestatic 99, 19, 0, 219), (19, .ifCond .eq 22, 22, 0, 41), (22, .iload 4, 24, 0, 0), (24, .invokestatic 99, 27, 0, 219), (27, .ifCond .eq 14, 30, 0, 41), (30, .iload_n 1, 31, 0, 0), (31, .iload_n 2, 32, 0, 0), (32, .ior, 33, 0, 0), (33, .iload_n 3, 34, 0, 0), (34, .ior, 35, 0, 0), (35, .iload 4, 37, 0, 0), (37, .ior, 38, 0, 0), (38, .ifCond .ne 7, 41, 0, 45), (41, .iconst 1, 42, 1, 0), (42, .goto 4, 45, 0, 46), (45, .iconst 0, 46, 0, 0), (46, .invokevirtual 88, 49, 0, 216), (49, .ifCond .eq 5, 52, 0, 54), (52, .iconst 0, 53, 0, 0), (53, .ireturn, 54, 0, 0), (54, .aload_n 0, 55, 0, 0), (55, .getfield 102, 58, 0, 137)]
def CX11_enter_1 : List zEn := [(58, .ifCond .ne 12, 61, 0, 70), (61, .aload_n 0, 62, 0, 0), (62, .getfield 78, 65, 0, 124), (65, .iconst 4, 66, 4, 0), (66, .idiv, 67, 0, 0), (67, .goto 14, 70, 0, 81), (70, .aload_n 0, 71, 0, 0), (71, .getfield 23, 74, 0, 131), (74, .aload_n 0, 75, 0, 0), (75, .getfield 102, 78, 0, 137), (78, .iconst 1, 79, 1, 0), (79, .isub, 80, 0, 0), (80, .iaload, 81, 0, 0), (81, .istore 5, 83, 0, 0), (83, .iload 5, 85, 0, 0), (85, .bipush 32, 87, 32, 0), (87, .isub, 88, 0, 0), (88, .istore 6, 90, 0, 0), (90, .iconst 0, 91, 0, 0), (91, .istore 7, 93, 0, 0), (93, .iload 7, 95, 0, 0), (95, .iconst 4, 96, 4, 0), (96, .if_icmp .ge 61, 99, 0, 157), (99, .iload 7, 101, 0, 0), (101, .ifCond .ne 7, 104, 0, 108), (104, .iload_n 1, 105, 0, 0), (105, .goto 25, 108, 0, 130), (108, .iload 7, 110, 0, 0), (110, .iconst 1, 111, 1, 0), (111, .if_icmp .ne 7, 114, 0, 118)]
def CX11_enter_2 : List zEn := [(114, .iload_n 2, 115, 0, 0), (115, .goto 15, 118, 0, 130), (118, .iload 7, 120, 0, 0), (120, .iconst 2, 121, 2, 0), (121, .if_icmp .ne 7, 124, 0, 128), (124, .iload_n 3, 125, 0, 0), (125, .goto 5, 128, 0, 130), (128, .iload 4, 130, 0, 0), (130, .istore 8, 132, 0, 0), (132, .iload 6, 134, 0, 0), (134, .iload 8, 136, 0, 0), (136, .ifCond .ne 7, 139, 0, 143), (139, .iconst 0, 140, 0, 0), (140, .goto 8, 143, 0, 148), (143, .iload 8, 145, 0, 0), (145, .invokestatic 105, 148, 0, 220), (148, .isub, 149, 0, 0), (149, .istore 6, 151, 0, 0), (151, .iinc 7 1, 154, 1, 0), (154, .goto (-61), 157, 0, 93), (157, .iload 6, 159, 0, 0), (159, .aload_n 0, 160, 0, 0), (160, .getfield 78, 163, 0, 124), (163, .bipush 8, 165, 8, 0), (165, .idiv, 166, 0, 0), (166, .if_icmp .ge 5, 169, 0, 171), (169, .iconst (-1), 170, (-1), 0), (170, .ireturn, 171, 0, 0), (171, .aload_n 0, 172, 0, 0), (172, .getfield 23, 175, 0, 131)]
def CX11_enter_3 : List zEn := [(175, .aload_n 0, 176, 0, 0), (176, .getfield 102, 179, 0, 137), (179, .iload 6, 181, 0, 0), (181, .iastore, 182, 0, 0), (182, .aload_n 0, 183, 0, 0), (183, .getfield 26, 186, 0, 132), (186, .aload_n 0, 187, 0, 0), (187, .getfield 102, 190, 0, 137), (190, .iload 5, 192, 0, 0), (192, .iastore, 193, 0, 0), (193, .aload_n 0, 194, 0, 0), (194, .iload 6, 196, 0, 0), (196, .iload 6, 198, 0, 0), (198, .bipush 32, 200, 32, 0), (200, .iadd, 201, 0, 0), (201, .sipush 241, 204, 241, 0), (204, .invokevirtual 109, 207, 0, 221), (207, .iconst 0, 208, 0, 0), (208, .istore 7, 210, 0, 0), (210, .iload 6, 212, 0, 0), (212, .bipush 32, 214, 32, 0), (214, .iadd, 215, 0, 0), (215, .istore 8, 217, 0, 0), (217, .iconst 0, 218, 0, 0), (218, .istore 9, 220, 0, 0), (220, .iload 9, 222, 0, 0), (222, .iconst 4, 223, 4, 0), (223, .if_icmp .ge 144, 226, 0, 367), (226, .iload 9, 228, 0, 0), (228, .ifCond .ne 7, 231, 0, 235)]
def CX11_enter_4 : List zEn := [(231, .iload_n 1, 232, 0, 0), (232, .goto 25, 235, 0, 257), (235, .iload 9, 237, 0, 0), (237, .iconst 1, 238, 1, 0), (238, .if_icmp .ne 7, 241, 0, 245), (241, .iload_n 2, 242, 0, 0), (242, .goto 15, 245, 0, 257), (245, .iload 9, 247, 0, 0), (247, .iconst 2, 248, 2, 0), (248, .if_icmp .ne 7, 251, 0, 255), (251, .iload_n 3, 252, 0, 0), (252, .goto 5, 255, 0, 257), (255, .iload 4, 257, 0, 0), (257, .istore 10, 259, 0, 0), (259, .iload 10, 261, 0, 0), (261, .ifCond .ne 6, 264, 0, 267), (264, .goto 97, 267, 0, 361), (267, .iconst 4, 268, 4, 0), (268, .aload_n 0, 269, 0, 0), (269, .getfield 102, 272, 0, 137), (272, .imul, 273, 0, 0), (273, .iload 7, 275, 0, 0), (275, .iinc 7 1, 278, 1, 0), (278, .iadd, 279, 0, 0), (279, .istore 11, 281, 0, 0), (281, .aload_n 0, 282, 0, 0), (282, .getfield 32, 285, 0, 134), (285, .iload 11, 287, 0, 0), (287, .iload 8, 289, 0, 0), (289, .iastore, 290, 0, 0)]
def CX11_enter_5 : List zEn := [(290, .aload_n 0, 291, 0, 0), (291, .getfield 35, 294, 0, 135), (294, .iload 11, 296, 0, 0), (296, .iload 10, 298, 0, 0), (298, .iastore, 299, 0, 0), (299, .aload_n 0, 300, 0, 0), (300, .getfield 38, 303, 0, 136), (303, .iload 11, 305, 0, 0), (305, .iconst 0, 306, 0, 0), (306, .bastore, 307, 0, 0), (307, .aload_n 0, 308, 0, 0), (308, .iload 8, 310, 0, 0), (310, .iload 8, 312, 0, 0), (312, .iload 10, 314, 0, 0), (314, .invokestatic 105, 317, 0, 220), (317, .iadd, 318, 0, 0), (318, .iload 8, 320, 0, 0), (320, .iload 10, 322, 0, 0), (322, .invokestatic 105, 325, 0, 220), (325, .iadd, 326, 0, 0), (326, .iload 5, 328, 0, 0), (328, .if_icmp .ne 9, 331, 0, 337), (331, .sipush 243, 334, 243, 0), (334, .goto 6, 337, 0, 340), (337, .sipush 242, 340, 242, 0), (340, .invokevirtual 109, 343, 0, 221), (343, .aload_n 0, 344, 0, 0), (344, .iload 8, 346, 0, 0), (346, .iload 10, 348, 0, 0), (348, .invokevirtual 95, 351, 0, 217)]
def CX11_enter_6 : List zEn := [(351, .iload 8, 353, 0, 0), (353, .iload 10, 355, 0, 0), (355, .invokestatic 105, 358, 0, 220), (358, .iadd, 359, 0, 0), (359, .istore 8, 361, 0, 0), (361, .iinc 9 1, 364, 1, 0), (364, .goto (-144), 367, 0, 220), (367, .aload_n 0, 368, 0, 0), (368, .getfield 29, 371, 0, 133), (371, .aload_n 0, 372, 0, 0), (372, .dup, 373, 0, 0), (373, .getfield 102, 376, 0, 137), (376, .dup_x1, 377, 0, 0), (377, .iconst 1, 378, 1, 0), (378, .iadd, 379, 0, 0), (379, .putfield 102, 382, 0, 137), (382, .iload 7, 384, 0, 0), (384, .iastore, 385, 0, 0), (385, .iload 6, 387, 0, 0), (387, .ireturn, 388, 0, 0)]
def MX11_enter : zMI := (yX11_enter, cX11_enter, 12, (some .int), [(58, CX11_enter_0), (114, CX11_enter_1), (175, CX11_enter_2), (231, CX11_enter_3), (290, CX11_enter_4), (351, CX11_enter_5), (99999, CX11_enter_6)], [])
theorem DX11_enter_0 : CX11_enter_0.all (zchk cX11_enter) = true := by decide +kernel
theorem DX11_enter_1 : CX11_enter_1.all (zchk cX11_enter) = true := by decide +kernel
theorem DX11_enter_2 : CX11_enter_2.all (zchk cX11_enter) = true := by decide +kernel
theorem DX11_enter_3 : CX11_enter_3.all (zchk cX11_enter) = true := by decide +kernel
theorem DX11_enter_4 : CX11_enter_4.all (zchk cX11_enter) = true := by decide +kernel
theorem DX11_enter_5 : CX11_enter_5.all (zchk cX11_enter) = true := by decide +kernel
theorem DX11_enter_6 : CX11_enter_6.all (zchk cX11_enter) = true := by decide +kernel
theorem OX11_enter : zMOK MX11_enter := by
  intro q hq e he
  simp only [MX11_enter, zFt, List.mem_cons, List.not_mem_nil, or_false] at hq
  rcases hq with rfl | rfl | rfl | rfl | rfl | rfl | rfl
  · exact List.all_eq_true.mp DX11_enter_0 e he
  · exact List.all_eq_true.mp DX11_enter_1 e he
  · exact List.all_eq_true.mp DX11_enter_2 e he
  · exact List.all_eq_true.mp DX11_enter_3 e he
  · exact List.all_eq_true.mp DX11_enter_4 e he
  · exact List.all_eq_true.mp DX11_enter_5 e he
  · exact List.all_eq_true.mp DX11_enter_6 e he
theorem KX11_enter : zMK MX11_enter := ⟨OX11_enter, by decide +kernel, z_in (List.mem_of_getElem? (i := 1179) (by decide +kernel)), z_in (List.mem_of_getElem? (i := 11) (by decide +kernel)), by decide +kernel, by decide +kernel⟩
theorem IX11_enter : Jvm.Cond.instanceMethod yX11_enter ∈ lw_tbl := z_in (List.mem_of_getElem? (i := 1177) (by decide +kernel))
theorem VX11_enter : Jvm.Cond.selects "ShadowWardModel" yX11_enter yX11_enter ∈ lw_tbl := z_in (List.mem_of_getElem? (i := 1178) (by decide +kernel))
def CX11_leave_0 : List zEn := [(0, .aload_n 0, 1, 0, 0), (1, .aload_n 0, 2, 0, 0), (2, .getfield 102, 5, 0, 137), (5, .ifCond .ne 7, 8, 0, 12), (8, .iconst 1, 9, 1, 0), (9, .goto 4, 12, 0, 13), (12, .iconst 0, 13, 0, 0), (13, .invokevirtual 88, 16, 0, 216), (16, .ifCond .eq 5, 19, 0, 21), (19, .iconst 0, 20, 0, 0), (20, .ireturn, 21, 0, 0), (21, .aload_n 0, 22, 0, 0), (22, .dup, 23, 0, 0), (23, .getfield 102, 26, 0, 137), (26, .iconst 1, 27, 1, 0), (27, .isub, 28, 0, 0), (28, .putfield 102, 31, 0, 137), (31, .aload_n 0, 32, 0, 0), (32, .aload_n 0, 33, 0, 0), (33, .getfield 23, 36, 0, 131), (36, .aload_n 0, 37, 0, 0), (37, .getfield 102, 40, 0, 137), (40, .iaload, 41, 0, 0), (41, .aload_n 0, 42, 0, 0), (42, .getfield 26, 45, 0, 132), (45, .aload_n 0, 46, 0, 0), (46, .getfield 102, 49, 0, 137), (49, .iaload, 50, 0, 0), (50, .sipush 245, 53, 245, 0), (53, .invokevirtual 109, 56, 0, 221)]
def CX11_leave_1 : List zEn := [(56, .aload_n 0, 57, 0, 0), (57, .getfield 102, 60, 0, 137), (60, .ireturn, 61, 0, 0)]
def MX11_leave : zMI := (yX11_leave, cX11_leave, 1, (some .int), [(56, CX11_leave_0), (99999, CX11_leave_1)], [])
theorem DX11_leave_0 : CX11_leave_0.all (zchk cX11_leave) = true := by decide +kernel
theorem DX11_leave_1 : CX11_leave_1.all (zchk cX11_leave) = true := by decide +kernel
theorem OX11_leave : zMOK MX11_leave := by
  intro q hq e he
  simp only [MX11_leave, zFt, List.mem_cons, List.not_mem_nil, or_false] at hq
  rcases hq with rfl | rfl
  · exact List.all_eq_true.mp DX11_leave_0 e he
  · exact List.all_eq_true.mp DX11_leave_1 e he
theorem KX11_leave : zMK MX11_leave := ⟨OX11_leave, by decide +kernel, z_in (List.mem_of_getElem? (i := 1193) (by decide +kernel)), z_in (List.mem_of_getElem? (i := 11) (by decide +kernel)), by decide +kernel, by decide +kernel⟩
theorem IX11_leave : Jvm.Cond.instanceMethod yX11_leave ∈ lw_tbl := z_in (List.mem_of_getElem? (i := 1191) (by decide +kernel))
theorem VX11_leave : Jvm.Cond.selects "ShadowWardModel" yX11_leave yX11_leave ∈ lw_tbl := z_in (List.mem_of_getElem? (i := 1192) (by decide +kernel))
def CX11_noVariable_0 : List zEn := [(0, .iload_n 1, 1, 0, 0), (1, .ifCond .lt 25, 4, 0, 26), (4, .iload_n 1, 5, 0, 0), (5, .aload_n 0, 6, 0, 0), (6, .getfield 102, 9, 0, 137), (9, .if_icmp .ge 17, 12, 0, 26), (12, .iload_n 2, 13, 0, 0), (13, .ifCond .lt 13, 16, 0, 26), (16, .iload_n 2, 17, 0, 0), (17, .aload_n 0, 18, 0, 0), (18, .getfield 29, 21, 0, 133), (21, .iload_n 1, 22, 0, 0), (22, .iaload, 23, 0, 0), (23, .if_icmp .lt 7, 26, 0, 30), (26, .iconst 1, 27, 1, 0), (27, .goto 4, 30, 0, 31), (30, .iconst 0, 31, 0, 0), (31, .ireturn, 32, 0, 0)]
def MX11_noVariable : zMI := (yX11_noVariable, cX11_noVariable, 3, (some .boolean), [(99999, CX11_noVariable_0)], [])
theorem DX11_noVariable_0 : CX11_noVariable_0.all (zchk cX11_noVariable) = true := by decide +kernel
theorem OX11_noVariable : zMOK MX11_noVariable := by
  intro q hq e he
  simp only [MX11_noVariable, zFt, List.mem_cons, List.not_mem_nil, or_false] at hq
  rcases hq with rfl
  · exact List.all_eq_true.mp DX11_noVariable_0 e he
theorem KX11_noVariable : zMK MX11_noVariable := ⟨OX11_noVariable, by decide +kernel, z_in (List.mem_of_getElem? (i := 1201) (by decide +kernel)), z_in (List.mem_of_getElem? (i := 11) (by decide +kernel)), by decide +kernel, by decide +kernel⟩
theorem IX11_noVariable : Jvm.Cond.instanceMethod yX11_noVariable ∈ lw_tbl := z_in (List.mem_of_getElem? (i := 1200) (by decide +kernel))
theorem VX11_noVariable : Jvm.Cond.selects "ShadowWardModel" yX11_noVariable yX11_noVariable ∈ lw_tbl := List.mem_append_left _ (List.mem_of_getElem? (i := 27) (by decide +kernel))
def CX11_scope_0 : List zEn := [(0, .aload_n 0, 1, 0, 0), (1, .aload_n 0, 2, 0, 0), (2, .iload_n 1, 3, 0, 0), (3, .iload_n 2, 4, 0, 0), (4, .invokevirtual 113, 7, 0, 224), (7, .ifCond .eq 7, 10, 0, 14), (10, .iconst 1, 11, 1, 0), (11, .goto 4, 14, 0, 15), (14, .iconst 0, 15, 0, 0), (15, .invokevirtual 88, 18, 0, 216), (18, .ifCond .eq 5, 21, 0, 23), (21, .iconst 0, 22, 0, 0), (22, .ireturn, 23, 0, 0), (23, .iconst 4, 24, 4, 0), (24, .iload_n 1, 25, 0, 0), (25, .imul, 26, 0, 0), (26, .iload_n 2, 27, 0, 0), (27, .iadd, 28, 0, 0), (28, .istore 4, 30, 0, 0), (30, .aload_n 0, 31, 0, 0), (31, .getfield 38, 34, 0, 136), (34, .iload 4, 36, 0, 0), (36, .baload, 37, 0, 0), (37, .iload_n 3, 38, 0, 0), (38, .if_icmp .eq 5, 41, 0, 43), (41, .iconst 0, 42, 0, 0), (42, .ireturn, 43, 0, 0), (43, .aload_n 0, 44, 0, 0), (44, .getfield 38, 47, 0, 136), (47, .iload 4, 49, 0, 0)]
def CX11_scope_1 : List zEn := [(49, .iload_n 3, 50, 0, 0), (50, .ifCond .ne 7, 53, 0, 57), (53, .iconst 1, 54, 1, 0), (54, .goto 4, 57, 0, 58), (57, .iconst 0, 58, 0, 0), (58, .bastore, 59, 0, 0), (59, .iload_n 3, 60, 0, 0), (60, .ifCond .eq 24, 63, 0, 84), (63, .aload_n 0, 64, 0, 0), (64, .aload_n 0, 65, 0, 0), (65, .getfield 32, 68, 0, 134), (68, .iload 4, 70, 0, 0), (70, .iaload, 71, 0, 0), (71, .aload_n 0, 72, 0, 0), (72, .getfield 35, 75, 0, 135), (75, .iload 4, 77, 0, 0), (77, .iaload, 78, 0, 0), (78, .invokevirtual 95, 81, 0, 217), (81, .goto 32, 84, 0, 113), (84, .aload_n 0, 85, 0, 0), (85, .aload_n 0, 86, 0, 0), (86, .getfield 32, 89, 0, 134), (89, .iload 4, 91, 0, 0), (91, .iaload, 92, 0, 0), (92, .aload_n 0, 93, 0, 0), (93, .getfield 32, 96, 0, 134), (96, .iload 4, 98, 0, 0), (98, .iaload, 99, 0, 0), (99, .aload_n 0, 100, 0, 0), (100, .getfield 35, 103, 0, 135)]
def CX11_scope_2 : List zEn := [(103, .iload 4, 105, 0, 0), (105, .iaload, 106, 0, 0), (106, .iadd, 107, 0, 0), (107, .sipush 248, 110, 248, 0), (110, .invokevirtual 109, 113, 0, 221), (113, .iconst 1, 114, 1, 0), (114, .ireturn, 115, 0, 0)]
def MX11_scope : zMI := (yX11_scope, cX11_scope, 5, (some .boolean), [(49, CX11_scope_0), (103, CX11_scope_1), (99999, CX11_scope_2)], [])
theorem DX11_scope_0 : CX11_scope_0.all (zchk cX11_scope) = true := by decide +kernel
theorem DX11_scope_1 : CX11_scope_1.all (zchk cX11_scope) = true := by decide +kernel
theorem DX11_scope_2 : CX11_scope_2.all (zchk cX11_scope) = true := by decide +kernel
theorem OX11_scope : zMOK MX11_scope := by
  intro q hq e he
  simp only [MX11_scope, zFt, List.mem_cons, List.not_mem_nil, or_false] at hq
  rcases hq with rfl | rfl | rfl
  · exact List.all_eq_true.mp DX11_scope_0 e he
  · exact List.all_eq_true.mp DX11_scope_1 e he
  · exact List.all_eq_true.mp DX11_scope_2 e he
theorem KX11_scope : zMK MX11_scope := ⟨OX11_scope, by decide +kernel, z_in (List.mem_of_getElem? (i := 1197) (by decide +kernel)), z_in (List.mem_of_getElem? (i := 11) (by decide +kernel)), by decide +kernel, by decide +kernel⟩
theorem IX11_scope : Jvm.Cond.instanceMethod yX11_scope ∈ lw_tbl := z_in (List.mem_of_getElem? (i := 1195) (by decide +kernel))
theorem VX11_scope : Jvm.Cond.selects "ShadowWardModel" yX11_scope yX11_scope ∈ lw_tbl := z_in (List.mem_of_getElem? (i := 1196) (by decide +kernel))
def CX11_variable_0 : List zEn := [(0, .aload_n 0, 1, 0, 0), (1, .aload_n 0, 2, 0, 0), (2, .iload_n 1, 3, 0, 0), (3, .iload_n 2, 4, 0, 0), (4, .invokevirtual 113, 7, 0, 224), (7, .ifCond .eq 7, 10, 0, 14), (10, .iconst 1, 11, 1, 0), (11, .goto 4, 14, 0, 15), (14, .iconst 0, 15, 0, 0), (15, .invokevirtual 88, 18, 0, 216), (18, .ifCond .eq 7, 21, 0, 25), (21, .iconst 0, 22, 0, 0), (22, .goto 13, 25, 0, 35), (25, .aload_n 0, 26, 0, 0), (26, .getfield 32, 29, 0, 134), (29, .iconst 4, 30, 4, 0), (30, .iload_n 1, 31, 0, 0), (31, .imul, 32, 0, 0), (32, .iload_n 2, 33, 0, 0), (33, .iadd, 34, 0, 0), (34, .iaload, 35, 0, 0), (35, .ireturn, 36, 0, 0)]
def MX11_variable : zMI := (yX11_variable, cX11_variable, 3, (some .int), [(99999, CX11_variable_0)], [])
theorem DX11_variable_0 : CX11_variable_0.all (zchk cX11_variable) = true := by decide +kernel
theorem OX11_variable : zMOK MX11_variable := by
  intro q hq e he
  simp only [MX11_variable, zFt, List.mem_cons, List.not_mem_nil, or_false] at hq
  rcases hq with rfl
  · exact List.all_eq_true.mp DX11_variable_0 e he
theorem KX11_variable : zMK MX11_variable := ⟨OX11_variable, by decide +kernel, z_in (List.mem_of_getElem? (i := 1205) (by decide +kernel)), z_in (List.mem_of_getElem? (i := 11) (by decide +kernel)), by decide +kernel, by decide +kernel⟩
theorem IX11_variable : Jvm.Cond.instanceMethod yX11_variable ∈ lw_tbl := z_in (List.mem_of_getElem? (i := 1203) (by decide +kernel))
theorem VX11_variable : Jvm.Cond.selects "ShadowWardModel" yX11_variable yX11_variable ∈ lw_tbl := z_in (List.mem_of_getElem? (i := 1204) (by decide +kernel))
def CX11_redzone_0 : List zEn := [(0, .iload_n 0, 1, 0, 0), (1, .bipush 64, 3, 64, 0), (3, .if_icmp .gt 8, 6, 0, 11), (6, .bipush 16, 8, 16, 0), (8, .goto 30, 11, 0, 38), (11, .iload_n 0, 12, 0, 0), (12, .sipush 256, 15, 256, 0), (15, .if_icmp .gt 8, 18, 0, 23), (18, .bipush 32, 20, 32, 0), (20, .goto 18, 23, 0, 38), (23, .iload_n 0, 24, 0, 0), (24, .sipush 1024, 27, 1024, 0), (27, .if_icmp .gt 8, 30, 0, 35), (30, .bipush 64, 32, 64, 0), (32, .goto 6, 35, 0, 38), (35, .sipush 128, 38, 128, 0), (38, .ireturn, 39, 0, 0)]
def MX11_redzone : zMI := (yX11_redzone, cX11_redzone, 1, (some .int), [(99999, CX11_redzone_0)], [])
theorem DX11_redzone_0 : CX11_redzone_0.all (zchk cX11_redzone) = true := by decide +kernel
theorem OX11_redzone : zMOK MX11_redzone := by
  intro q hq e he
  simp only [MX11_redzone, zFt, List.mem_cons, List.not_mem_nil, or_false] at hq
  rcases hq with rfl
  · exact List.all_eq_true.mp DX11_redzone_0 e he
theorem KX11_redzone : zMK MX11_redzone := ⟨OX11_redzone, by decide +kernel, z_in (List.mem_of_getElem? (i := 1216) (by decide +kernel)), z_in (List.mem_of_getElem? (i := 11) (by decide +kernel)), by decide +kernel, by decide +kernel⟩
theorem SX11_redzone : Jvm.Cond.static yX11_redzone ∈ lw_tbl := z_in (List.mem_of_getElem? (i := 1215) (by decide +kernel))
def CX11_isFree_0 : List zEn := [(0, .iconst 0, 1, 0, 0), (1, .istore_n 3, 2, 0, 0), (2, .iload_n 3, 3, 0, 0), (3, .aload_n 0, 4, 0, 0), (4, .getfield 117, 7, 0, 146), (7, .if_icmp .ge 50, 10, 0, 57), (10, .aload_n 0, 11, 0, 0), (11, .getfield 51, 14, 0, 141), (14, .iload_n 3, 15, 0, 0), (15, .iaload, 16, 0, 0), (16, .iconst 2, 17, 2, 0), (17, .if_icmp .eq 34, 20, 0, 51), (20, .iload_n 1, 21, 0, 0), (21, .aload_n 0, 22, 0, 0), (22, .getfield 54, 25, 0, 142), (25, .iload_n 3, 26, 0, 0), (26, .iaload, 27, 0, 0), (27, .aload_n 0, 28, 0, 0), (28, .getfield 57, 31, 0, 143), (31, .iload_n 3, 32, 0, 0), (32, .iaload, 33, 0, 0), (33, .iadd, 34, 0, 0), (34, .if_icmp .ge 17, 37, 0, 51), (37, .aload_n 0, 38, 0, 0), (38, .getfield 54, 41, 0, 142), (41, .iload_n 3, 42, 0, 0), (42, .iaload, 43, 0, 0), (43, .iload_n 1, 44, 0, 0), (44, .iload_n 2, 45, 0, 0), (45, .iadd, 46, 0, 0)]
def CX11_isFree_1 : List zEn := [(46, .if_icmp .ge 5, 49, 0, 51), (49, .iconst 0, 50, 0, 0), (50, .ireturn, 51, 0, 0), (51, .iinc 3 1, 54, 1, 0), (54, .goto (-52), 57, 0, 2), (57, .iconst 1, 58, 1, 0), (58, .ireturn, 59, 0, 0)]
def MX11_isFree : zMI := (yX11_isFree, cX11_isFree, 4, (some .boolean), [(46, CX11_isFree_0), (99999, CX11_isFree_1)], [])
theorem DX11_isFree_0 : CX11_isFree_0.all (zchk cX11_isFree) = true := by decide +kernel
theorem DX11_isFree_1 : CX11_isFree_1.all (zchk cX11_isFree) = true := by decide +kernel
theorem OX11_isFree : zMOK MX11_isFree := by
  intro q hq e he
  simp only [MX11_isFree, zFt, List.mem_cons, List.not_mem_nil, or_false] at hq
  rcases hq with rfl | rfl
  · exact List.all_eq_true.mp DX11_isFree_0 e he
  · exact List.all_eq_true.mp DX11_isFree_1 e he
theorem KX11_isFree : zMK MX11_isFree := ⟨OX11_isFree, by decide +kernel, z_in (List.mem_of_getElem? (i := 1224) (by decide +kernel)), z_in (List.mem_of_getElem? (i := 11) (by decide +kernel)), by decide +kernel, by decide +kernel⟩
theorem IX11_isFree : Jvm.Cond.instanceMethod yX11_isFree ∈ lw_tbl := z_in (List.mem_of_getElem? (i := 1223) (by decide +kernel))
theorem VX11_isFree : Jvm.Cond.selects "ShadowWardModel" yX11_isFree yX11_isFree ∈ lw_tbl := List.mem_append_left _ (List.mem_of_getElem? (i := 30) (by decide +kernel))
def CX11_placeFor_0 : List zEn := [(0, .aload_n 0, 1, 0, 0), (1, .getfield 78, 4, 0, 124), (4, .iconst 4, 5, 4, 0), (5, .idiv, 6, 0, 0), (6, .istore_n 2, 7, 0, 0), (7, .iload_n 2, 8, 0, 0), (8, .iload_n 1, 9, 0, 0), (9, .iadd, 10, 0, 0), (10, .aload_n 0, 11, 0, 0), (11, .getfield 78, 14, 0, 124), (14, .if_icmp .gt 20, 17, 0, 34), (17, .aload_n 0, 18, 0, 0), (18, .iload_n 2, 19, 0, 0), (19, .iload_n 1, 20, 0, 0), (20, .invokevirtual 120, 23, 0, 230), (23, .ifCond .eq 5, 26, 0, 28), (26, .iload_n 2, 27, 0, 0), (27, .ireturn, 28, 0, 0), (28, .iinc 2 16, 31, 16, 0), (31, .goto (-24), 34, 0, 7), (34, .iconst (-1), 35, (-1), 0), (35, .ireturn, 36, 0, 0)]
def MX11_placeFor : zMI := (yX11_placeFor, cX11_placeFor, 3, (some .int), [(99999, CX11_placeFor_0)], [])
theorem DX11_placeFor_0 : CX11_placeFor_0.all (zchk cX11_placeFor) = true := by decide +kernel
theorem OX11_placeFor : zMOK MX11_placeFor := by
  intro q hq e he
  simp only [MX11_placeFor, zFt, List.mem_cons, List.not_mem_nil, or_false] at hq
  rcases hq with rfl
  · exact List.all_eq_true.mp DX11_placeFor_0 e he
theorem KX11_placeFor : zMK MX11_placeFor := ⟨OX11_placeFor, by decide +kernel, z_in (List.mem_of_getElem? (i := 1220) (by decide +kernel)), z_in (List.mem_of_getElem? (i := 11) (by decide +kernel)), by decide +kernel, by decide +kernel⟩
theorem IX11_placeFor : Jvm.Cond.instanceMethod yX11_placeFor ∈ lw_tbl := z_in (List.mem_of_getElem? (i := 1219) (by decide +kernel))
theorem VX11_placeFor : Jvm.Cond.selects "ShadowWardModel" yX11_placeFor yX11_placeFor ∈ lw_tbl := List.mem_append_left _ (List.mem_of_getElem? (i := 29) (by decide +kernel))
def CX11_oldestLeaves_0 : List zEn := [(0, .aload_n 0, 1, 0, 0), (1, .getfield 66, 4, 0, 147), (4, .iconst 0, 5, 0, 0), (5, .iaload, 6, 0, 0), (6, .istore_n 1, 7, 0, 0), (7, .aload_n 0, 8, 0, 0), (8, .dup, 9, 0, 0), (9, .getfield 123, 12, 0, 148), (12, .iconst 1, 13, 1, 0), (13, .isub, 14, 0, 0), (14, .putfield 123, 17, 0, 148), (17, .iconst 0, 18, 0, 0), (18, .istore_n 2, 19, 0, 0), (19, .iload_n 2, 20, 0, 0), (20, .aload_n 0, 21, 0, 0), (21, .getfield 123, 24, 0, 148), (24, .if_icmp .ge 23, 27, 0, 47), (27, .aload_n 0, 28, 0, 0), (28, .getfield 66, 31, 0, 147), (31, .iload_n 2, 32, 0, 0), (32, .aload_n 0, 33, 0, 0), (33, .getfield 66, 36, 0, 147), (36, .iload_n 2, 37, 0, 0), (37, .iconst 1, 38, 1, 0), (38, .iadd, 39, 0, 0), (39, .iaload, 40, 0, 0), (40, .iastore, 41, 0, 0), (41, .iinc 2 1, 44, 1, 0), (44, .goto (-25), 47, 0, 19), (47, .aload_n 0, 48, 0, 0)]
def CX11_oldestLeaves_1 : List zEn := [(48, .getfield 51, 51, 0, 141), (51, .iload_n 1, 52, 0, 0), (52, .iconst 2, 53, 2, 0), (53, .iastore, 54, 0, 0), (54, .aload_n 0, 55, 0, 0), (55, .aload_n 0, 56, 0, 0), (56, .getfield 54, 59, 0, 142), (59, .iload_n 1, 60, 0, 0), (60, .iaload, 61, 0, 0), (61, .aload_n 0, 62, 0, 0), (62, .getfield 54, 65, 0, 142), (65, .iload_n 1, 66, 0, 0), (66, .iaload, 67, 0, 0), (67, .aload_n 0, 68, 0, 0), (68, .getfield 57, 71, 0, 143), (71, .iload_n 1, 72, 0, 0), (72, .iaload, 73, 0, 0), (73, .iadd, 74, 0, 0), (74, .sipush 250, 77, 250, 0), (77, .invokevirtual 109, 80, 0, 221), (80, .return_, 81, 0, 0)]
def MX11_oldestLeaves : zMI := (yX11_oldestLeaves, cX11_oldestLeaves, 3, none, [(48, CX11_oldestLeaves_0), (99999, CX11_oldestLeaves_1)], [])
theorem DX11_oldestLeaves_0 : CX11_oldestLeaves_0.all (zchk cX11_oldestLeaves) = true := by decide +kernel
theorem DX11_oldestLeaves_1 : CX11_oldestLeaves_1.all (zchk cX11_oldestLeaves) = true := by decide +kernel
theorem OX11_oldestLeaves : zMOK MX11_oldestLeaves := by
  intro q hq e he
  simp only [MX11_oldestLeaves, zFt, List.mem_cons, List.not_mem_nil, or_false] at hq
  rcases hq with rfl | rfl
  · exact List.all_eq_true.mp DX11_oldestLeaves_0 e he
  · exact List.all_eq_true.mp DX11_oldestLeaves_1 e he
theorem KX11_oldestLeaves : zMK MX11_oldestLeaves := ⟨OX11_oldestLeaves, by decide +kernel, z_in (List.mem_of_getElem? (i := 1228) (by decide +kernel)), z_in (List.mem_of_getElem? (i := 11) (by decide +kernel)), by decide +kernel, by decide +kernel⟩
theorem IX11_oldestLeaves : Jvm.Cond.instanceMethod yX11_oldestLeaves ∈ lw_tbl := z_in (List.mem_of_getElem? (i := 1227) (by decide +kernel))
theorem VX11_oldestLeaves : Jvm.Cond.selects "ShadowWardModel" yX11_oldestLeaves yX11_oldestLeaves ∈ lw_tbl := List.mem_append_left _ (List.mem_of_getElem? (i := 31) (by decide +kernel))
def CX11_given_0 : List zEn := [(0, .iload_n 2, 1, 0, 0), (1, .invokestatic 126, 4, 0, 228), (4, .iload_n 2, 5, 0, 0), (5, .bipush 15, 7, 15, 0), (7, .iadd, 8, 0, 0), (8, .bipush 16, 10, 16, 0), (10, .idiv, 11, 0, 0), (11, .bipush 16, 13, 16, 0), (13, .imul, 14, 0, 0), (14, .iadd, 15, 0, 0), (15, .bipush 16, 17, 16, 0), (17, .iadd, 18, 0, 0), (18, .istore 4, 20, 0, 0), (20, .aload_n 0, 21, 0, 0), (21, .iload 4, 23, 0, 0), (23, .invokevirtual 129, 26, 0, 229), (26, .istore 5, 28, 0, 0), (28, .iload 5, 30, 0, 0), (30, .ifCond .ge 25, 33, 0, 55), (33, .aload_n 0, 34, 0, 0), (34, .getfield 123, 37, 0, 148), (37, .ifCond .le 18, 40, 0, 55), (40, .aload_n 0, 41, 0, 0), (41, .invokevirtual 132, 44, 0, 231), (44, .aload_n 0, 45, 0, 0), (45, .iload 4, 47, 0, 0), (47, .invokevirtual 129, 50, 0, 229), (50, .istore 5, 52, 0, 0), (52, .goto (-24), 55, 0, 28), (55, .iload 5, 57, 0, 0)]
def CX11_given_1 : List zEn := [(57, .ifCond .ge 5, 60, 0, 62), (60, .iconst (-1), 61, (-1), 0), (61, .ireturn, 62, 0, 0), (62, .aload_n 0, 63, 0, 0), (63, .dup, 64, 0, 0), (64, .getfield 117, 67, 0, 146), (67, .dup_x1, 68, 0, 0), (68, .iconst 1, 69, 1, 0), (69, .iadd, 70, 0, 0), (70, .putfield 117, 73, 0, 146), (73, .istore 6, 75, 0, 0), (75, .aload_n 0, 76, 0, 0), (76, .getfield 54, 79, 0, 142), (79, .iload 6, 81, 0, 0), (81, .iload 5, 83, 0, 0), (83, .iastore, 84, 0, 0), (84, .aload_n 0, 85, 0, 0), (85, .getfield 57, 88, 0, 143), (88, .iload 6, 90, 0, 0), (90, .iload 4, 92, 0, 0), (92, .iastore, 93, 0, 0), (93, .aload_n 0, 94, 0, 0), (94, .getfield 42, 97, 0, 138), (97, .iload 6, 99, 0, 0), (99, .iload 5, 101, 0, 0), (101, .iload_n 2, 102, 0, 0), (102, .invokestatic 126, 105, 0, 228), (105, .iadd, 106, 0, 0), (106, .iastore, 107, 0, 0), (107, .aload_n 0, 108, 0, 0)]
def CX11_given_2 : List zEn := [(108, .getfield 45, 111, 0, 139), (111, .iload 6, 113, 0, 0), (113, .iload_n 2, 114, 0, 0), (114, .iastore, 115, 0, 0), (115, .aload_n 0, 116, 0, 0), (116, .getfield 48, 119, 0, 140), (119, .iload 6, 121, 0, 0), (121, .iload_n 1, 122, 0, 0), (122, .iastore, 123, 0, 0), (123, .aload_n 0, 124, 0, 0), (124, .getfield 51, 127, 0, 141), (127, .iload 6, 129, 0, 0), (129, .iconst 0, 130, 0, 0), (130, .iastore, 131, 0, 0), (131, .aload_n 0, 132, 0, 0), (132, .getfield 60, 135, 0, 144), (135, .iload 6, 137, 0, 0), (137, .iload_n 3, 138, 0, 0), (138, .iastore, 139, 0, 0), (139, .aload_n 0, 140, 0, 0), (140, .getfield 63, 143, 0, 145), (143, .iload 6, 145, 0, 0), (145, .iconst 0, 146, 0, 0), (146, .iastore, 147, 0, 0), (147, .iconst 0, 148, 0, 0), (148, .istore 7, 150, 0, 0), (150, .iload 7, 152, 0, 0), (152, .iload_n 2, 153, 0, 0), (153, .if_icmp .ge 26, 156, 0, 179), (156, .aload_n 0, 157, 0, 0)]
def CX11_given_3 : List zEn := [(157, .getfield 7, 160, 0, 126), (160, .aload_n 0, 161, 0, 0), (161, .getfield 42, 164, 0, 138), (164, .iload 6, 166, 0, 0), (166, .iaload, 167, 0, 0), (167, .iload 7, 169, 0, 0), (169, .iadd, 170, 0, 0), (170, .bipush (-66), 172, (-66), 0), (172, .bastore, 173, 0, 0), (173, .iinc 7 1, 176, 1, 0), (176, .goto (-26), 179, 0, 150), (179, .aload_n 0, 180, 0, 0), (180, .iload 5, 182, 0, 0), (182, .iload 5, 184, 0, 0), (184, .iload 4, 186, 0, 0), (186, .iadd, 187, 0, 0), (187, .sipush 250, 190, 250, 0), (190, .invokevirtual 109, 193, 0, 221), (193, .aload_n 0, 194, 0, 0), (194, .aload_n 0, 195, 0, 0), (195, .getfield 42, 198, 0, 138), (198, .iload 6, 200, 0, 0), (200, .iaload, 201, 0, 0), (201, .iload_n 2, 202, 0, 0), (202, .invokevirtual 95, 205, 0, 217), (205, .aload_n 0, 206, 0, 0), (206, .getfield 42, 209, 0, 138), (209, .iload 6, 211, 0, 0), (211, .iaload, 212, 0, 0), (212, .ireturn, 213, 0, 0)]
def MX11_given : zMI := (yX11_given, cX11_given, 8, (some .int), [(57, CX11_given_0), (108, CX11_given_1), (157, CX11_given_2), (99999, CX11_given_3)], [])
theorem DX11_given_0 : CX11_given_0.all (zchk cX11_given) = true := by decide +kernel
theorem DX11_given_1 : CX11_given_1.all (zchk cX11_given) = true := by decide +kernel
theorem DX11_given_2 : CX11_given_2.all (zchk cX11_given) = true := by decide +kernel
theorem DX11_given_3 : CX11_given_3.all (zchk cX11_given) = true := by decide +kernel
theorem OX11_given : zMOK MX11_given := by
  intro q hq e he
  simp only [MX11_given, zFt, List.mem_cons, List.not_mem_nil, or_false] at hq
  rcases hq with rfl | rfl | rfl | rfl
  · exact List.all_eq_true.mp DX11_given_0 e he
  · exact List.all_eq_true.mp DX11_given_1 e he
  · exact List.all_eq_true.mp DX11_given_2 e he
  · exact List.all_eq_true.mp DX11_given_3 e he
theorem KX11_given : zMK MX11_given := ⟨OX11_given, by decide +kernel, z_in (List.mem_of_getElem? (i := 1213) (by decide +kernel)), z_in (List.mem_of_getElem? (i := 11) (by decide +kernel)), by decide +kernel, by decide +kernel⟩
theorem IX11_given : Jvm.Cond.instanceMethod yX11_given ∈ lw_tbl := z_in (List.mem_of_getElem? (i := 1212) (by decide +kernel))
theorem VX11_given : Jvm.Cond.selects "ShadowWardModel" yX11_given yX11_given ∈ lw_tbl := List.mem_append_left _ (List.mem_of_getElem? (i := 28) (by decide +kernel))
def CX11_allocate_0 : List zEn := [(0, .aload_n 0, 1, 0, 0), (1, .iload_n 1, 2, 0, 0), (2, .ifCond .lt 20, 5, 0, 22), (5, .iload_n 1, 6, 0, 0), (6, .iconst 2, 7, 2, 0), (7, .if_icmp .gt 15, 10, 0, 22), (10, .iload_n 2, 11, 0, 0), (11, .ifCond .lt 11, 14, 0, 22), (14, .iload_n 2, 15, 0, 0), (15, .aload_n 0, 16, 0, 0), (16, .getfield 78, 19, 0, 124), (19, .if_icmp .le 7, 22, 0, 26), (22, .iconst 1, 23, 1, 0), (23, .goto 4, 26, 0, 27), (26, .iconst 0, 27, 0, 0), (27, .invokevirtual 88, 30, 0, 216), (30, .ifCond .eq 7, 33, 0, 37), (33, .iconst 0, 34, 0, 0), (34, .goto 10, 37, 0, 44), (37, .aload_n 0, 38, 0, 0), (38, .iload_n 1, 39, 0, 0), (39, .iload_n 2, 40, 0, 0), (40, .iload_n 3, 41, 0, 0), (41, .invokevirtual 135, 44, 0, 227), (44, .ireturn, 45, 0, 0)]
def MX11_allocate : zMI := (yX11_allocate, cX11_allocate, 4, (some .int), [(99999, CX11_allocate_0)], [])
theorem DX11_allocate_0 : CX11_allocate_0.all (zchk cX11_allocate) = true := by decide +kernel
theorem OX11_allocate : zMOK MX11_allocate := by
  intro q hq e he
  simp only [MX11_allocate, zFt, List.mem_cons, List.not_mem_nil, or_false] at hq
  rcases hq with rfl
  · exact List.all_eq_true.mp DX11_allocate_0 e he
theorem KX11_allocate : zMK MX11_allocate := ⟨OX11_allocate, by decide +kernel, z_in (List.mem_of_getElem? (i := 1209) (by decide +kernel)), z_in (List.mem_of_getElem? (i := 11) (by decide +kernel)), by decide +kernel, by decide +kernel⟩
theorem IX11_allocate : Jvm.Cond.instanceMethod yX11_allocate ∈ lw_tbl := z_in (List.mem_of_getElem? (i := 1207) (by decide +kernel))
theorem VX11_allocate : Jvm.Cond.selects "ShadowWardModel" yX11_allocate yX11_allocate ∈ lw_tbl := z_in (List.mem_of_getElem? (i := 1208) (by decide +kernel))
def CX11_heldBytes_0 : List zEn := [(0, .iconst 0, 1, 0, 0), (1, .istore_n 1, 2, 0, 0), (2, .iconst 0, 3, 0, 0), (3, .istore_n 2, 4, 0, 0), (4, .iload_n 2, 5, 0, 0), (5, .aload_n 0, 6, 0, 0), (6, .getfield 123, 9, 0, 148), (9, .if_icmp .ge 23, 12, 0, 32), (12, .iload_n 1, 13, 0, 0), (13, .aload_n 0, 14, 0, 0), (14, .getfield 57, 17, 0, 143), (17, .aload_n 0, 18, 0, 0), (18, .getfield 66, 21, 0, 147), (21, .iload_n 2, 22, 0, 0), (22, .iaload, 23, 0, 0), (23, .iaload, 24, 0, 0), (24, .iadd, 25, 0, 0), (25, .istore_n 1, 26, 0, 0), (26, .iinc 2 1, 29, 1, 0), (29, .goto (-25), 32, 0, 4), (32, .iload_n 1, 33, 0, 0), (33, .ireturn, 34, 0, 0)]
def MX11_heldBytes : zMI := (yX11_heldBytes, cX11_heldBytes, 3, (some .int), [(99999, CX11_heldBytes_0)], [])
theorem DX11_heldBytes_0 : CX11_heldBytes_0.all (zchk cX11_heldBytes) = true := by decide +kernel
theorem OX11_heldBytes : zMOK MX11_heldBytes := by
  intro q hq e he
  simp only [MX11_heldBytes, zFt, List.mem_cons, List.not_mem_nil, or_false] at hq
  rcases hq with rfl
  · exact List.all_eq_true.mp DX11_heldBytes_0 e he
theorem KX11_heldBytes : zMK MX11_heldBytes := ⟨OX11_heldBytes, by decide +kernel, z_in (List.mem_of_getElem? (i := 1263) (by decide +kernel)), z_in (List.mem_of_getElem? (i := 11) (by decide +kernel)), by decide +kernel, by decide +kernel⟩
theorem IX11_heldBytes : Jvm.Cond.instanceMethod yX11_heldBytes ∈ lw_tbl := z_in (List.mem_of_getElem? (i := 1262) (by decide +kernel))
theorem VX11_heldBytes : Jvm.Cond.selects "ShadowWardModel" yX11_heldBytes yX11_heldBytes ∈ lw_tbl := List.mem_append_left _ (List.mem_of_getElem? (i := 38) (by decide +kernel))
def CX11_goes_0 : List zEn := [(0, .aload_n 0, 1, 0, 0), (1, .getfield 51, 4, 0, 141), (4, .iload_n 1, 5, 0, 0), (5, .iconst 1, 6, 1, 0), (6, .iastore, 7, 0, 0), (7, .aload_n 0, 8, 0, 0), (8, .getfield 63, 11, 0, 145), (11, .iload_n 1, 12, 0, 0), (12, .iload_n 2, 13, 0, 0), (13, .iastore, 14, 0, 0), (14, .aload_n 0, 15, 0, 0), (15, .getfield 66, 18, 0, 147), (18, .aload_n 0, 19, 0, 0), (19, .dup, 20, 0, 0), (20, .getfield 123, 23, 0, 148), (23, .dup_x1, 24, 0, 0), (24, .iconst 1, 25, 1, 0), (25, .iadd, 26, 0, 0), (26, .putfield 123, 29, 0, 148), (29, .iload_n 1, 30, 0, 0), (30, .iastore, 31, 0, 0), (31, .aload_n 0, 32, 0, 0), (32, .aload_n 0, 33, 0, 0), (33, .getfield 42, 36, 0, 138), (36, .iload_n 1, 37, 0, 0), (37, .iaload, 38, 0, 0), (38, .aload_n 0, 39, 0, 0), (39, .getfield 42, 42, 0, 138), (42, .iload_n 1, 43, 0, 0), (43, .iaload, 44, 0, 0)]
def CX11_goes_1 : List zEn := [(44, .aload_n 0, 45, 0, 0), (45, .getfield 45, 48, 0, 139), (48, .iload_n 1, 49, 0, 0), (49, .iaload, 50, 0, 0), (50, .iadd, 51, 0, 0), (51, .sipush 253, 54, 253, 0), (54, .invokevirtual 109, 57, 0, 221), (57, .aload_n 0, 58, 0, 0), (58, .invokevirtual 139, 61, 0, 240), (61, .aload_n 0, 62, 0, 0), (62, .getfield 82, 65, 0, 125), (65, .if_icmp .le 10, 68, 0, 75), (68, .aload_n 0, 69, 0, 0), (69, .invokevirtual 132, 72, 0, 231), (72, .goto (-15), 75, 0, 57), (75, .return_, 76, 0, 0)]
def MX11_goes : zMI := (yX11_goes, cX11_goes, 3, none, [(44, CX11_goes_0), (99999, CX11_goes_1)], [])
theorem DX11_goes_0 : CX11_goes_0.all (zchk cX11_goes) = true := by decide +kernel
theorem DX11_goes_1 : CX11_goes_1.all (zchk cX11_goes) = true := by decide +kernel
theorem OX11_goes : zMOK MX11_goes := by
  intro q hq e he
  simp only [MX11_goes, zFt, List.mem_cons, List.not_mem_nil, or_false] at hq
  rcases hq with rfl | rfl
  · exact List.all_eq_true.mp DX11_goes_0 e he
  · exact List.all_eq_true.mp DX11_goes_1 e he
theorem KX11_goes : zMK MX11_goes := ⟨OX11_goes, by decide +kernel, z_in (List.mem_of_getElem? (i := 1259) (by decide +kernel)), z_in (List.mem_of_getElem? (i := 11) (by decide +kernel)), by decide +kernel, by decide +kernel⟩
theorem IX11_goes : Jvm.Cond.instanceMethod yX11_goes ∈ lw_tbl := z_in (List.mem_of_getElem? (i := 1258) (by decide +kernel))
theorem VX11_goes : Jvm.Cond.selects "ShadowWardModel" yX11_goes yX11_goes ∈ lw_tbl := List.mem_append_left _ (List.mem_of_getElem? (i := 37) (by decide +kernel))
def CX11_blockIn_0 : List zEn := [(0, .iconst 0, 1, 0, 0), (1, .istore_n 3, 2, 0, 0), (2, .iload_n 3, 3, 0, 0), (3, .aload_n 0, 4, 0, 0), (4, .getfield 117, 7, 0, 146), (7, .if_icmp .ge 31, 10, 0, 38), (10, .aload_n 0, 11, 0, 0), (11, .getfield 42, 14, 0, 138), (14, .iload_n 3, 15, 0, 0), (15, .iaload, 16, 0, 0), (16, .iload_n 1, 17, 0, 0), (17, .if_icmp .ne 15, 20, 0, 32), (20, .aload_n 0, 21, 0, 0), (21, .getfield 51, 24, 0, 141), (24, .iload_n 3, 25, 0, 0), (25, .iaload, 26, 0, 0), (26, .iload_n 2, 27, 0, 0), (27, .if_icmp .ne 5, 30, 0, 32), (30, .iload_n 3, 31, 0, 0), (31, .ireturn, 32, 0, 0), (32, .iinc 3 1, 35, 1, 0), (35, .goto (-33), 38, 0, 2), (38, .iconst (-1), 39, (-1), 0), (39, .ireturn, 40, 0, 0)]
def MX11_blockIn : zMI := (yX11_blockIn, cX11_blockIn, 4, (some .int), [(99999, CX11_blockIn_0)], [])
theorem DX11_blockIn_0 : CX11_blockIn_0.all (zchk cX11_blockIn) = true := by decide +kernel
theorem OX11_blockIn : zMOK MX11_blockIn := by
  intro q hq e he
  simp only [MX11_blockIn, zFt, List.mem_cons, List.not_mem_nil, or_false] at hq
  rcases hq with rfl
  · exact List.all_eq_true.mp DX11_blockIn_0 e he
theorem KX11_blockIn : zMK MX11_blockIn := ⟨OX11_blockIn, by decide +kernel, z_in (List.mem_of_getElem? (i := 1240) (by decide +kernel)), z_in (List.mem_of_getElem? (i := 11) (by decide +kernel)), by decide +kernel, by decide +kernel⟩
theorem IX11_blockIn : Jvm.Cond.instanceMethod yX11_blockIn ∈ lw_tbl := z_in (List.mem_of_getElem? (i := 1239) (by decide +kernel))
theorem VX11_blockIn : Jvm.Cond.selects "ShadowWardModel" yX11_blockIn yX11_blockIn ∈ lw_tbl := List.mem_append_left _ (List.mem_of_getElem? (i := 33) (by decide +kernel))
def CX11_mayGo_0 : List zEn := [(0, .aload_n 0, 1, 0, 0), (1, .iload_n 2, 2, 0, 0), (2, .iconst 0, 3, 0, 0), (3, .invokevirtual 143, 6, 0, 234), (6, .istore_n 3, 7, 0, 0), (7, .iload_n 3, 8, 0, 0), (8, .ifCond .lt 15, 11, 0, 23), (11, .aload_n 0, 12, 0, 0), (12, .getfield 48, 15, 0, 140), (15, .iload_n 3, 16, 0, 0), (16, .iaload, 17, 0, 0), (17, .iload_n 1, 18, 0, 0), (18, .if_icmp .ne 5, 21, 0, 23), (21, .iload_n 3, 22, 0, 0), (22, .ireturn, 23, 0, 0), (23, .aload_n 0, 24, 0, 0), (24, .iload_n 3, 25, 0, 0), (25, .ifCond .lt 8, 28, 0, 33), (28, .bipush 12, 30, 12, 0), (30, .goto 19, 33, 0, 49), (33, .aload_n 0, 34, 0, 0), (34, .iload_n 2, 35, 0, 0), (35, .iconst 1, 36, 1, 0), (36, .invokevirtual 143, 39, 0, 234), (39, .ifCond .lt 8, 42, 0, 47), (42, .bipush 10, 44, 10, 0), (44, .goto 5, 47, 0, 49), (47, .bipush 11, 49, 11, 0), (49, .iload_n 2, 50, 0, 0), (50, .i2l, 51, 0, 0)]
def CX11_mayGo_1 : List zEn := [(51, .iconst 0, 52, 0, 0), (52, .iconst 1, 53, 1, 0), (53, .invokevirtual 147, 56, 0, 235), (56, .iconst (-1), 57, (-1), 0), (57, .ireturn, 58, 0, 0)]
def MX11_mayGo : zMI := (yX11_mayGo, cX11_mayGo, 4, (some .int), [(51, CX11_mayGo_0), (99999, CX11_mayGo_1)], [])
theorem DX11_mayGo_0 : CX11_mayGo_0.all (zchk cX11_mayGo) = true := by decide +kernel
theorem DX11_mayGo_1 : CX11_mayGo_1.all (zchk cX11_mayGo) = true := by decide +kernel
theorem OX11_mayGo : zMOK MX11_mayGo := by
  intro q hq e he
  simp only [MX11_mayGo, zFt, List.mem_cons, List.not_mem_nil, or_false] at hq
  rcases hq with rfl | rfl
  · exact List.all_eq_true.mp DX11_mayGo_0 e he
  · exact List.all_eq_true.mp DX11_mayGo_1 e he
theorem KX11_mayGo : zMK MX11_mayGo := ⟨OX11_mayGo, by decide +kernel, z_in (List.mem_of_getElem? (i := 1236) (by decide +kernel)), z_in (List.mem_of_getElem? (i := 11) (by decide +kernel)), by decide +kernel, by decide +kernel⟩
theorem IX11_mayGo : Jvm.Cond.instanceMethod yX11_mayGo ∈ lw_tbl := z_in (List.mem_of_getElem? (i := 1235) (by decide +kernel))
theorem VX11_mayGo : Jvm.Cond.selects "ShadowWardModel" yX11_mayGo yX11_mayGo ∈ lw_tbl := List.mem_append_left _ (List.mem_of_getElem? (i := 32) (by decide +kernel))
def CX11_free_0 : List zEn := [(0, .aload_n 0, 1, 0, 0), (1, .iload_n 1, 2, 0, 0), (2, .ifCond .lt 8, 5, 0, 10), (5, .iload_n 1, 6, 0, 0), (6, .iconst 2, 7, 2, 0), (7, .if_icmp .le 7, 10, 0, 14), (10, .iconst 1, 11, 1, 0), (11, .goto 4, 14, 0, 15), (14, .iconst 0, 15, 0, 0), (15, .invokevirtual 88, 18, 0, 216), (18, .ifCond .ne 8, 21, 0, 26), (21, .iload_n 2, 22, 0, 0), (22, .iconst (-1), 23, (-1), 0), (23, .if_icmp .ne 5, 26, 0, 28), (26, .iconst 0, 27, 0, 0), (27, .ireturn, 28, 0, 0), (28, .aload_n 0, 29, 0, 0), (29, .iload_n 1, 30, 0, 0), (30, .iload_n 2, 31, 0, 0), (31, .invokevirtual 151, 34, 0, 233), (34, .istore 4, 36, 0, 0), (36, .iload 4, 38, 0, 0), (38, .ifCond .lt 10, 41, 0, 48), (41, .aload_n 0, 42, 0, 0), (42, .iload 4, 44, 0, 0), (44, .iload_n 3, 45, 0, 0), (45, .invokevirtual 154, 48, 0, 239), (48, .iload 4, 50, 0, 0), (50, .ifCond .lt 7, 53, 0, 57), (53, .iconst 1, 54, 1, 0)]
def CX11_free_1 : List zEn := [(54, .goto 4, 57, 0, 58), (57, .iconst 0, 58, 0, 0), (58, .ireturn, 59, 0, 0)]
def MX11_free : zMI := (yX11_free, cX11_free, 5, (some .boolean), [(54, CX11_free_0), (99999, CX11_free_1)], [])
theorem DX11_free_0 : CX11_free_0.all (zchk cX11_free) = true := by decide +kernel
theorem DX11_free_1 : CX11_free_1.all (zchk cX11_free) = true := by decide +kernel
theorem OX11_free : zMOK MX11_free := by
  intro q hq e he
  simp only [MX11_free, zFt, List.mem_cons, List.not_mem_nil, or_false] at hq
  rcases hq with rfl | rfl
  · exact List.all_eq_true.mp DX11_free_0 e he
  · exact List.all_eq_true.mp DX11_free_1 e he
theorem KX11_free : zMK MX11_free := ⟨OX11_free, by decide +kernel, z_in (List.mem_of_getElem? (i := 1232) (by decide +kernel)), z_in (List.mem_of_getElem? (i := 11) (by decide +kernel)), by decide +kernel, by decide +kernel⟩
theorem IX11_free : Jvm.Cond.instanceMethod yX11_free ∈ lw_tbl := z_in (List.mem_of_getElem? (i := 1230) (by decide +kernel))
theorem VX11_free : Jvm.Cond.selects "ShadowWardModel" yX11_free yX11_free ∈ lw_tbl := z_in (List.mem_of_getElem? (i := 1231) (by decide +kernel))
def CX11_resize_0 : List zEn := [(0, .aload_n 0, 1, 0, 0), (1, .iload_n 2, 2, 0, 0), (2, .ifCond .lt 11, 5, 0, 13), (5, .iload_n 2, 6, 0, 0), (6, .aload_n 0, 7, 0, 0), (7, .getfield 78, 10, 0, 124), (10, .if_icmp .le 7, 13, 0, 17), (13, .iconst 1, 14, 1, 0), (14, .goto 4, 17, 0, 18), (17, .iconst 0, 18, 0, 0), (18, .invokevirtual 88, 21, 0, 216), (21, .ifCond .eq 5, 24, 0, 26), (24, .iconst 0, 25, 0, 0), (25, .ireturn, 26, 0, 0), (26, .iload_n 1, 27, 0, 0), (27, .iconst (-1), 28, (-1), 0), (28, .if_icmp .ne 11, 31, 0, 39), (31, .aload_n 0, 32, 0, 0), (32, .iconst 0, 33, 0, 0), (33, .iload_n 2, 34, 0, 0), (34, .iload_n 3, 35, 0, 0), (35, .invokevirtual 135, 38, 0, 227), (38, .ireturn, 39, 0, 0), (39, .aload_n 0, 40, 0, 0), (40, .iconst 0, 41, 0, 0), (41, .iload_n 1, 42, 0, 0), (42, .invokevirtual 151, 45, 0, 233), (45, .istore 4, 47, 0, 0), (47, .iload 4, 49, 0, 0), (49, .ifCond .ge 5, 52, 0, 54)]
def CX11_resize_1 : List zEn := [(52, .iconst (-1), 53, (-1), 0), (53, .ireturn, 54, 0, 0), (54, .aload_n 0, 55, 0, 0), (55, .iconst 0, 56, 0, 0), (56, .iload_n 2, 57, 0, 0), (57, .iload_n 3, 58, 0, 0), (58, .invokevirtual 135, 61, 0, 227), (61, .istore 5, 63, 0, 0), (63, .iload 5, 65, 0, 0), (65, .ifCond .ge 5, 68, 0, 70), (68, .iconst (-1), 69, (-1), 0), (69, .ireturn, 70, 0, 0), (70, .iconst 0, 71, 0, 0), (71, .istore 6, 73, 0, 0), (73, .iload 6, 75, 0, 0), (75, .iload_n 2, 76, 0, 0), (76, .if_icmp .ge 46, 79, 0, 122), (79, .iload 6, 81, 0, 0), (81, .aload_n 0, 82, 0, 0), (82, .getfield 45, 85, 0, 139), (85, .iload 4, 87, 0, 0), (87, .iaload, 88, 0, 0), (88, .if_icmp .ge 34, 91, 0, 122), (91, .aload_n 0, 92, 0, 0), (92, .getfield 7, 95, 0, 126), (95, .iload 5, 97, 0, 0), (97, .iload 6, 99, 0, 0), (99, .iadd, 100, 0, 0), (100, .aload_n 0, 101, 0, 0), (101, .getfield 7, 104, 0, 126)]
def CX11_resize_2 : List zEn := [(104, .aload_n 0, 105, 0, 0), (105, .getfield 42, 108, 0, 138), (108, .iload 4, 110, 0, 0), (110, .iaload, 111, 0, 0), (111, .iload 6, 113, 0, 0), (113, .iadd, 114, 0, 0), (114, .baload, 115, 0, 0), (115, .bastore, 116, 0, 0), (116, .iinc 6 1, 119, 1, 0), (119, .goto (-46), 122, 0, 73), (122, .aload_n 0, 123, 0, 0), (123, .iload 4, 125, 0, 0), (125, .iload_n 3, 126, 0, 0), (126, .invokevirtual 154, 129, 0, 239), (129, .iload 5, 131, 0, 0), (131, .ireturn, 132, 0, 0)]
def MX11_resize : zMI := (yX11_resize, cX11_resize, 7, (some .int), [(52, CX11_resize_0), (104, CX11_resize_1), (99999, CX11_resize_2)], [])
theorem DX11_resize_0 : CX11_resize_0.all (zchk cX11_resize) = true := by decide +kernel
theorem DX11_resize_1 : CX11_resize_1.all (zchk cX11_resize) = true := by decide +kernel
theorem DX11_resize_2 : CX11_resize_2.all (zchk cX11_resize) = true := by decide +kernel
theorem OX11_resize : zMOK MX11_resize := by
  intro q hq e he
  simp only [MX11_resize, zFt, List.mem_cons, List.not_mem_nil, or_false] at hq
  rcases hq with rfl | rfl | rfl
  · exact List.all_eq_true.mp DX11_resize_0 e he
  · exact List.all_eq_true.mp DX11_resize_1 e he
  · exact List.all_eq_true.mp DX11_resize_2 e he
theorem KX11_resize : zMK MX11_resize := ⟨OX11_resize, by decide +kernel, z_in (List.mem_of_getElem? (i := 1267) (by decide +kernel)), z_in (List.mem_of_getElem? (i := 11) (by decide +kernel)), by decide +kernel, by decide +kernel⟩
theorem IX11_resize : Jvm.Cond.instanceMethod yX11_resize ∈ lw_tbl := z_in (List.mem_of_getElem? (i := 1265) (by decide +kernel))
theorem VX11_resize : Jvm.Cond.selects "ShadowWardModel" yX11_resize yX11_resize ∈ lw_tbl := z_in (List.mem_of_getElem? (i := 1266) (by decide +kernel))
def CX11_far_0 : List zEn := [(0, .lload_n 0, 1, 0, 0), (1, .iload_n 2, 2, 0, 0), (2, .i2l, 3, 0, 0), (3, .lcmp, 4, 0, 0), (4, .ifCond .ge 10, 7, 0, 14), (7, .iload_n 2, 8, 0, 0), (8, .i2l, 9, 0, 0), (9, .lload_n 0, 10, 0, 0), (10, .lsub, 11, 0, 0), (11, .goto 24, 14, 0, 35), (14, .lload_n 0, 15, 0, 0), (15, .iload_n 2, 16, 0, 0), (16, .iload_n 3, 17, 0, 0), (17, .iadd, 18, 0, 0), (18, .i2l, 19, 0, 0), (19, .lcmp, 20, 0, 0), (20, .ifCond .lt 14, 23, 0, 34), (23, .lload_n 0, 24, 0, 0), (24, .iload_n 2, 25, 0, 0), (25, .iload_n 3, 26, 0, 0), (26, .iadd, 27, 0, 0), (27, .i2l, 28, 0, 0), (28, .lsub, 29, 0, 0), (29, .lconst 1, 30, 0, 0), (30, .ladd, 31, 0, 0), (31, .goto 4, 34, 0, 35), (34, .lconst 0, 35, 0, 0), (35, .lreturn, 36, 0, 0)]
def MX11_far : zMI := (yX11_far, cX11_far, 4, (some .long), [(99999, CX11_far_0)], [])
theorem DX11_far_0 : CX11_far_0.all (zchk cX11_far) = true := by decide +kernel
theorem OX11_far : zMOK MX11_far := by
  intro q hq e he
  simp only [MX11_far, zFt, List.mem_cons, List.not_mem_nil, or_false] at hq
  rcases hq with rfl
  · exact List.all_eq_true.mp DX11_far_0 e he
theorem KX11_far : zMK MX11_far := ⟨OX11_far, by decide +kernel, z_in (List.mem_of_getElem? (i := 1251) (by decide +kernel)), z_in (List.mem_of_getElem? (i := 11) (by decide +kernel)), by decide +kernel, by decide +kernel⟩
theorem SX11_far : Jvm.Cond.static yX11_far ∈ lw_tbl := z_in (List.mem_of_getElem? (i := 1250) (by decide +kernel))
def CX11_tells_0 : List zEn := [(0, .bipush 10, 2, 10, 0), (2, .aload_n 0, 3, 0, 0), (3, .dup, 4, 0, 0), (4, .getfield 157, 7, 0, 150), (7, .dup_x1, 8, 0, 0), (8, .iconst 1, 9, 1, 0), (9, .iadd, 10, 0, 0), (10, .putfield 157, 13, 0, 150), (13, .imul, 14, 0, 0), (14, .istore 6, 16, 0, 0), (16, .aload_n 0, 17, 0, 0), (17, .getfield 69, 20, 0, 149), (20, .iload 6, 22, 0, 0), (22, .iload_n 1, 23, 0, 0), (23, .iastore, 24, 0, 0), (24, .aload_n 0, 25, 0, 0), (25, .getfield 69, 28, 0, 149), (28, .iload 6, 30, 0, 0), (30, .iconst 1, 31, 1, 0), (31, .iadd, 32, 0, 0), (32, .lload_n 2, 33, 0, 0), (33, .l2i, 34, 0, 0), (34, .iastore, 35, 0, 0), (35, .aload_n 0, 36, 0, 0), (36, .getfield 69, 39, 0, 149), (39, .iload 6, 41, 0, 0), (41, .iconst 2, 42, 2, 0), (42, .iadd, 43, 0, 0), (43, .iload 4, 45, 0, 0), (45, .iastore, 46, 0, 0)]
def CX11_tells_1 : List zEn := [(46, .aload_n 0, 47, 0, 0), (47, .getfield 69, 50, 0, 149), (50, .iload 6, 52, 0, 0), (52, .iconst 3, 53, 3, 0), (53, .iadd, 54, 0, 0), (54, .iload 5, 56, 0, 0), (56, .ifCond .eq 7, 59, 0, 63), (59, .iconst 1, 60, 1, 0), (60, .goto 4, 63, 0, 64), (63, .iconst 0, 64, 0, 0), (64, .iastore, 65, 0, 0), (65, .aload_n 0, 66, 0, 0), (66, .getfield 69, 69, 0, 149), (69, .iload 6, 71, 0, 0), (71, .iconst 4, 72, 4, 0), (72, .iadd, 73, 0, 0), (73, .iconst 0, 74, 0, 0), (74, .iastore, 75, 0, 0), (75, .aload_n 0, 76, 0, 0), (76, .getfield 69, 79, 0, 149), (79, .iload 6, 81, 0, 0), (81, .iconst 5, 82, 5, 0), (82, .iadd, 83, 0, 0), (83, .iconst (-1), 84, (-1), 0), (84, .iastore, 85, 0, 0), (85, .aload_n 0, 86, 0, 0), (86, .getfield 69, 89, 0, 149), (89, .iload 6, 91, 0, 0), (91, .bipush 6, 93, 6, 0), (93, .iadd, 94, 0, 0)]
def CX11_tells_2 : List zEn := [(94, .iconst 0, 95, 0, 0), (95, .iastore, 96, 0, 0), (96, .aload_n 0, 97, 0, 0), (97, .getfield 69, 100, 0, 149), (100, .iload 6, 102, 0, 0), (102, .bipush 7, 104, 7, 0), (104, .iadd, 105, 0, 0), (105, .iconst 0, 106, 0, 0), (106, .iastore, 107, 0, 0), (107, .aload_n 0, 108, 0, 0), (108, .getfield 69, 111, 0, 149), (111, .iload 6, 113, 0, 0), (113, .bipush 8, 115, 8, 0), (115, .iadd, 116, 0, 0), (116, .iconst 0, 117, 0, 0), (117, .iastore, 118, 0, 0), (118, .aload_n 0, 119, 0, 0), (119, .getfield 69, 122, 0, 149), (122, .iload 6, 124, 0, 0), (124, .bipush 9, 126, 9, 0), (126, .iadd, 127, 0, 0), (127, .iconst 0, 128, 0, 0), (128, .iastore, 129, 0, 0), (129, .lload_n 2, 130, 0, 0), (130, .lconst 0, 131, 0, 0), (131, .lcmp, 132, 0, 0), (132, .ifCond .lt 13, 135, 0, 145), (135, .lload_n 2, 136, 0, 0), (136, .aload_n 0, 137, 0, 0), (137, .getfield 78, 140, 0, 124)]
def CX11_tells_3 : List zEn := [(140, .i2l, 141, 0, 0), (141, .lcmp, 142, 0, 0), (142, .ifCond .lt 4, 145, 0, 146), (145, .return_, 146, 0, 0), (146, .lload_n 2, 147, 0, 0), (147, .aload_n 0, 148, 0, 0), (148, .getfield 78, 151, 0, 124), (151, .bipush 8, 153, 8, 0), (153, .idiv, 154, 0, 0), (154, .i2l, 155, 0, 0), (155, .lcmp, 156, 0, 0), (156, .ifCond .ge 48, 159, 0, 204), (159, .iconst 0, 160, 0, 0), (160, .istore 7, 162, 0, 0), (162, .iload 7, 164, 0, 0), (164, .aload_n 0, 165, 0, 0), (165, .getfield 92, 168, 0, 130), (168, .if_icmp .ge 33, 171, 0, 201), (171, .aload_n 0, 172, 0, 0), (172, .iload 6, 174, 0, 0), (174, .lload_n 2, 175, 0, 0), (175, .iconst 1, 176, 1, 0), (176, .iload 7, 178, 0, 0), (178, .aload_n 0, 179, 0, 0), (179, .getfield 17, 182, 0, 128), (182, .iload 7, 184, 0, 0), (184, .iaload, 185, 0, 0), (185, .aload_n 0, 186, 0, 0), (186, .getfield 20, 189, 0, 129), (189, .iload 7, 191, 0, 0)]
def CX11_tells_4 : List zEn := [(191, .iaload, 192, 0, 0), (192, .invokevirtual 160, 195, 0, 236), (195, .iinc 7 1, 198, 1, 0), (198, .goto (-36), 201, 0, 162), (201, .goto 131, 204, 0, 332), (204, .lload_n 2, 205, 0, 0), (205, .aload_n 0, 206, 0, 0), (206, .getfield 78, 209, 0, 124), (209, .iconst 4, 210, 4, 0), (210, .idiv, 211, 0, 0), (211, .i2l, 212, 0, 0), (212, .lcmp, 213, 0, 0), (213, .ifCond .ge 66, 216, 0, 279), (216, .iconst 0, 217, 0, 0), (217, .istore 7, 219, 0, 0), (219, .iload 7, 221, 0, 0), (221, .iconst 4, 222, 4, 0), (222, .aload_n 0, 223, 0, 0), (223, .getfield 102, 226, 0, 137), (226, .imul, 227, 0, 0), (227, .if_icmp .ge 49, 230, 0, 276), (230, .iload 7, 232, 0, 0), (232, .iconst 4, 233, 4, 0), (233, .irem, 234, 0, 0), (234, .aload_n 0, 235, 0, 0), (235, .getfield 29, 238, 0, 133), (238, .iload 7, 240, 0, 0), (240, .iconst 4, 241, 4, 0), (241, .idiv, 242, 0, 0), (242, .iaload, 243, 0, 0)]
def CX11_tells_5 : List zEn := [(243, .if_icmp .ge 27, 246, 0, 270), (246, .aload_n 0, 247, 0, 0), (247, .iload 6, 249, 0, 0), (249, .lload_n 2, 250, 0, 0), (250, .iconst 2, 251, 2, 0), (251, .iload 7, 253, 0, 0), (253, .aload_n 0, 254, 0, 0), (254, .getfield 32, 257, 0, 134), (257, .iload 7, 259, 0, 0), (259, .iaload, 260, 0, 0), (260, .aload_n 0, 261, 0, 0), (261, .getfield 35, 264, 0, 135), (264, .iload 7, 266, 0, 0), (266, .iaload, 267, 0, 0), (267, .invokevirtual 160, 270, 0, 236), (270, .iinc 7 1, 273, 1, 0), (273, .goto (-54), 276, 0, 219), (276, .goto 56, 279, 0, 332), (279, .iconst 0, 280, 0, 0), (280, .istore 7, 282, 0, 0), (282, .iload 7, 284, 0, 0), (284, .aload_n 0, 285, 0, 0), (285, .getfield 117, 288, 0, 146), (288, .if_icmp .ge 44, 291, 0, 332), (291, .aload_n 0, 292, 0, 0), (292, .getfield 51, 295, 0, 141), (295, .iload 7, 297, 0, 0), (297, .iaload, 298, 0, 0), (298, .iconst 2, 299, 2, 0), (299, .if_icmp .eq 27, 302, 0, 326)]
def CX11_tells_6 : List zEn := [(302, .aload_n 0, 303, 0, 0), (303, .iload 6, 305, 0, 0), (305, .lload_n 2, 306, 0, 0), (306, .iconst 3, 307, 3, 0), (307, .iload 7, 309, 0, 0), (309, .aload_n 0, 310, 0, 0), (310, .getfield 42, 313, 0, 138), (313, .iload 7, 315, 0, 0), (315, .iaload, 316, 0, 0), (316, .aload_n 0, 317, 0, 0), (317, .getfield 45, 320, 0, 139), (320, .iload 7, 322, 0, 0), (322, .iaload, 323, 0, 0), (323, .invokevirtual 160, 326, 0, 236), (326, .iinc 7 1, 329, 1, 0), (329, .goto (-47), 332, 0, 282), (332, .aload_n 0, 333, 0, 0), (333, .getfield 69, 336, 0, 149), (336, .iload 6, 338, 0, 0), (338, .iconst 4, 339, 4, 0), (339, .iadd, 340, 0, 0), (340, .iaload, 341, 0, 0), (341, .iconst 3, 342, 3, 0), (342, .if_icmp .ne 51, 345, 0, 393), (345, .aload_n 0, 346, 0, 0), (346, .getfield 69, 349, 0, 149), (349, .iload 6, 351, 0, 0), (351, .bipush 8, 353, 8, 0), (353, .iadd, 354, 0, 0), (354, .aload_n 0, 355, 0, 0)]
def CX11_tells_7 : List zEn := [(355, .getfield 60, 358, 0, 144), (358, .aload_n 0, 359, 0, 0), (359, .getfield 69, 362, 0, 149), (362, .iload 6, 364, 0, 0), (364, .iconst 5, 365, 5, 0), (365, .iadd, 366, 0, 0), (366, .iaload, 367, 0, 0), (367, .iaload, 368, 0, 0), (368, .iastore, 369, 0, 0), (369, .aload_n 0, 370, 0, 0), (370, .getfield 69, 373, 0, 149), (373, .iload 6, 375, 0, 0), (375, .bipush 9, 377, 9, 0), (377, .iadd, 378, 0, 0), (378, .aload_n 0, 379, 0, 0), (379, .getfield 63, 382, 0, 145), (382, .aload_n 0, 383, 0, 0), (383, .getfield 69, 386, 0, 149), (386, .iload 6, 388, 0, 0), (388, .iconst 5, 389, 5, 0), (389, .iadd, 390, 0, 0), (390, .iaload, 391, 0, 0), (391, .iaload, 392, 0, 0), (392, .iastore, 393, 0, 0), (393, .return_, 394, 0, 0)]
def MX11_tells : zMI := (yX11_tells, cX11_tells, 8, none, [(46, CX11_tells_0), (94, CX11_tells_1), (140, CX11_tells_2), (191, CX11_tells_3), (243, CX11_tells_4), (302, CX11_tells_5), (355, CX11_tells_6), (99999, CX11_tells_7)], [])
theorem DX11_tells_0 : CX11_tells_0.all (zchk cX11_tells) = true := by decide +kernel
theorem DX11_tells_1 : CX11_tells_1.all (zchk cX11_tells) = true := by decide +kernel
theorem DX11_tells_2 : CX11_tells_2.all (zchk cX11_tells) = true := by decide +kernel
theorem DX11_tells_3 : CX11_tells_3.all (zchk cX11_tells) = true := by decide +kernel
theorem DX11_tells_4 : CX11_tells_4.all (zchk cX11_tells) = true := by decide +kernel
theorem DX11_tells_5 : CX11_tells_5.all (zchk cX11_tells) = true := by decide +kernel
theorem DX11_tells_6 : CX11_tells_6.all (zchk cX11_tells) = true := by decide +kernel
theorem DX11_tells_7 : CX11_tells_7.all (zchk cX11_tells) = true := by decide +kernel
theorem OX11_tells : zMOK MX11_tells := by
  intro q hq e he
  simp only [MX11_tells, zFt, List.mem_cons, List.not_mem_nil, or_false] at hq
  rcases hq with rfl | rfl | rfl | rfl | rfl | rfl | rfl | rfl
  · exact List.all_eq_true.mp DX11_tells_0 e he
  · exact List.all_eq_true.mp DX11_tells_1 e he
  · exact List.all_eq_true.mp DX11_tells_2 e he
  · exact List.all_eq_true.mp DX11_tells_3 e he
  · exact List.all_eq_true.mp DX11_tells_4 e he
  · exact List.all_eq_true.mp DX11_tells_5 e he
  · exact List.all_eq_true.mp DX11_tells_6 e he
  · exact List.all_eq_true.mp DX11_tells_7 e he
theorem KX11_tells : zMK MX11_tells := ⟨OX11_tells, by decide +kernel, z_in (List.mem_of_getElem? (i := 1244) (by decide +kernel)), z_in (List.mem_of_getElem? (i := 11) (by decide +kernel)), by decide +kernel, by decide +kernel⟩
theorem IX11_tells : Jvm.Cond.instanceMethod yX11_tells ∈ lw_tbl := z_in (List.mem_of_getElem? (i := 1243) (by decide +kernel))
theorem VX11_tells : Jvm.Cond.selects "ShadowWardModel" yX11_tells yX11_tells ∈ lw_tbl := List.mem_append_left _ (List.mem_of_getElem? (i := 34) (by decide +kernel))
def CX11_regionAt_0 : List zEn := [(0, .iload_n 1, 1, 0, 0), (1, .iconst 1, 2, 1, 0), (2, .if_icmp .ne 12, 5, 0, 14), (5, .aload_n 0, 6, 0, 0), (6, .getfield 17, 9, 0, 128), (9, .iload_n 2, 10, 0, 0), (10, .iaload, 11, 0, 0), (11, .goto 23, 14, 0, 34), (14, .iload_n 1, 15, 0, 0), (15, .iconst 2, 16, 2, 0), (16, .if_icmp .ne 12, 19, 0, 28), (19, .aload_n 0, 20, 0, 0), (20, .getfield 32, 23, 0, 134), (23, .iload_n 2, 24, 0, 0), (24, .iaload, 25, 0, 0), (25, .goto 9, 28, 0, 34), (28, .aload_n 0, 29, 0, 0), (29, .getfield 42, 32, 0, 138), (32, .iload_n 2, 33, 0, 0), (33, .iaload, 34, 0, 0), (34, .ireturn, 35, 0, 0)]
def MX11_regionAt : zMI := (yX11_regionAt, cX11_regionAt, 3, (some .int), [(99999, CX11_regionAt_0)], [])
theorem DX11_regionAt_0 : CX11_regionAt_0.all (zchk cX11_regionAt) = true := by decide +kernel
theorem OX11_regionAt : zMOK MX11_regionAt := by
  intro q hq e he
  simp only [MX11_regionAt, zFt, List.mem_cons, List.not_mem_nil, or_false] at hq
  rcases hq with rfl
  · exact List.all_eq_true.mp DX11_regionAt_0 e he
theorem KX11_regionAt : zMK MX11_regionAt := ⟨OX11_regionAt, by decide +kernel, z_in (List.mem_of_getElem? (i := 1255) (by decide +kernel)), z_in (List.mem_of_getElem? (i := 11) (by decide +kernel)), by decide +kernel, by decide +kernel⟩
theorem IX11_regionAt : Jvm.Cond.instanceMethod yX11_regionAt ∈ lw_tbl := z_in (List.mem_of_getElem? (i := 1254) (by decide +kernel))
theorem VX11_regionAt : Jvm.Cond.selects "ShadowWardModel" yX11_regionAt yX11_regionAt ∈ lw_tbl := List.mem_append_left _ (List.mem_of_getElem? (i := 36) (by decide +kernel))
def CX11_nearer_0 : List zEn := [(0, .lload_n 2, 1, 0, 0), (1, .iload 6, 3, 0, 0), (3, .iload 7, 5, 0, 0), (5, .invokestatic 164, 8, 0, 237), (8, .l2i, 9, 0, 0), (9, .istore 8, 11, 0, 0), (11, .aload_n 0, 12, 0, 0), (12, .getfield 69, 15, 0, 149), (15, .iload_n 1, 16, 0, 0), (16, .iconst 4, 17, 4, 0), (17, .iadd, 18, 0, 0), (18, .iaload, 19, 0, 0), (19, .ifCond .eq 50, 22, 0, 69), (22, .iload 8, 24, 0, 0), (24, .aload_n 0, 25, 0, 0), (25, .getfield 69, 28, 0, 149), (28, .iload_n 1, 29, 0, 0), (29, .bipush 6, 31, 6, 0), (31, .iadd, 32, 0, 0), (32, .iaload, 33, 0, 0), (33, .if_icmp .lt 36, 36, 0, 69), (36, .iload 8, 38, 0, 0), (38, .aload_n 0, 39, 0, 0), (39, .getfield 69, 42, 0, 149), (42, .iload_n 1, 43, 0, 0), (43, .bipush 6, 45, 6, 0), (45, .iadd, 46, 0, 0), (46, .iaload, 47, 0, 0), (47, .if_icmp .ne 26, 50, 0, 73), (50, .iload 6, 52, 0, 0)]
def CX11_nearer_1 : List zEn := [(52, .aload_n 0, 53, 0, 0), (53, .iload 4, 55, 0, 0), (55, .aload_n 0, 56, 0, 0), (56, .getfield 69, 59, 0, 149), (59, .iload_n 1, 60, 0, 0), (60, .iconst 5, 61, 5, 0), (61, .iadd, 62, 0, 0), (62, .iaload, 63, 0, 0), (63, .invokevirtual 168, 66, 0, 238), (66, .if_icmp .ge 7, 69, 0, 73), (69, .iconst 1, 70, 1, 0), (70, .goto 4, 73, 0, 74), (73, .iconst 0, 74, 0, 0), (74, .istore 9, 76, 0, 0), (76, .iload 9, 78, 0, 0), (78, .ifCond .ne 4, 81, 0, 82), (81, .return_, 82, 0, 0), (82, .aload_n 0, 83, 0, 0), (83, .getfield 69, 86, 0, 149), (86, .iload_n 1, 87, 0, 0), (87, .iconst 4, 88, 4, 0), (88, .iadd, 89, 0, 0), (89, .iload 4, 91, 0, 0), (91, .iastore, 92, 0, 0), (92, .aload_n 0, 93, 0, 0), (93, .getfield 69, 96, 0, 149), (96, .iload_n 1, 97, 0, 0), (97, .iconst 5, 98, 5, 0), (98, .iadd, 99, 0, 0), (99, .iload 5, 101, 0, 0)]
def CX11_nearer_2 : List zEn := [(101, .iastore, 102, 0, 0), (102, .aload_n 0, 103, 0, 0), (103, .getfield 69, 106, 0, 149), (106, .iload_n 1, 107, 0, 0), (107, .bipush 6, 109, 6, 0), (109, .iadd, 110, 0, 0), (110, .iload 8, 112, 0, 0), (112, .iastore, 113, 0, 0), (113, .aload_n 0, 114, 0, 0), (114, .getfield 69, 117, 0, 149), (117, .iload_n 1, 118, 0, 0), (118, .bipush 7, 120, 7, 0), (120, .iadd, 121, 0, 0), (121, .iload 8, 123, 0, 0), (123, .ifCond .ne 7, 126, 0, 130), (126, .iconst 0, 127, 0, 0), (127, .goto 16, 130, 0, 143), (130, .lload_n 2, 131, 0, 0), (131, .iload 6, 133, 0, 0), (133, .i2l, 134, 0, 0), (134, .lcmp, 135, 0, 0), (135, .ifCond .ge 7, 138, 0, 142), (138, .iconst 2, 139, 2, 0), (139, .goto 4, 142, 0, 143), (142, .iconst 1, 143, 1, 0), (143, .iastore, 144, 0, 0), (144, .return_, 145, 0, 0)]
def MX11_nearer : zMI := (yX11_nearer, cX11_nearer, 10, none, [(52, CX11_nearer_0), (101, CX11_nearer_1), (99999, CX11_nearer_2)], [])
theorem DX11_nearer_0 : CX11_nearer_0.all (zchk cX11_nearer) = true := by decide +kernel
theorem DX11_nearer_1 : CX11_nearer_1.all (zchk cX11_nearer) = true := by decide +kernel
theorem DX11_nearer_2 : CX11_nearer_2.all (zchk cX11_nearer) = true := by decide +kernel
theorem OX11_nearer : zMOK MX11_nearer := by
  intro q hq e he
  simp only [MX11_nearer, zFt, List.mem_cons, List.not_mem_nil, or_false] at hq
  rcases hq with rfl | rfl | rfl
  · exact List.all_eq_true.mp DX11_nearer_0 e he
  · exact List.all_eq_true.mp DX11_nearer_1 e he
  · exact List.all_eq_true.mp DX11_nearer_2 e he
theorem KX11_nearer : zMK MX11_nearer := ⟨OX11_nearer, by decide +kernel, z_in (List.mem_of_getElem? (i := 1248) (by decide +kernel)), z_in (List.mem_of_getElem? (i := 11) (by decide +kernel)), by decide +kernel, by decide +kernel⟩
theorem IX11_nearer : Jvm.Cond.instanceMethod yX11_nearer ∈ lw_tbl := z_in (List.mem_of_getElem? (i := 1247) (by decide +kernel))
theorem VX11_nearer : Jvm.Cond.selects "ShadowWardModel" yX11_nearer yX11_nearer ∈ lw_tbl := List.mem_append_left _ (List.mem_of_getElem? (i := 35) (by decide +kernel))
def CX11_wrong_0 : List zEn := [(0, .lload_n 1, 1, 0, 0), (1, .lconst 0, 2, 0, 0), (2, .lcmp, 3, 0, 0), (3, .ifCond .lt 13, 6, 0, 16), (6, .lload_n 1, 7, 0, 0), (7, .aload_n 0, 8, 0, 0), (8, .getfield 78, 11, 0, 124), (11, .i2l, 12, 0, 0), (12, .lcmp, 13, 0, 0), (13, .ifCond .lt 6, 16, 0, 19), (16, .bipush 9, 18, 9, 0), (18, .ireturn, 19, 0, 0), (19, .lload_n 1, 20, 0, 0), (20, .l2i, 21, 0, 0), (21, .bipush 8, 23, 8, 0), (23, .idiv, 24, 0, 0), (24, .istore_n 3, 25, 0, 0), (25, .aload_n 0, 26, 0, 0), (26, .getfield 13, 29, 0, 127), (29, .iload_n 3, 30, 0, 0), (30, .iaload, 31, 0, 0), (31, .istore 4, 33, 0, 0), (33, .iload 4, 35, 0, 0), (35, .ifCond .eq 22, 38, 0, 57), (38, .iload 4, 40, 0, 0), (40, .bipush 8, 42, 8, 0), (42, .if_icmp .ge 17, 45, 0, 59), (45, .lload_n 1, 46, 0, 0), (46, .ldc2_w 171, 49, 0, 0), (49, .lrem, 50, 0, 0)]
def CX11_wrong_1 : List zEn := [(50, .iload 4, 52, 0, 0), (52, .i2l, 53, 0, 0), (53, .lcmp, 54, 0, 0), (54, .ifCond .ge 5, 57, 0, 59), (57, .iconst 0, 58, 0, 0), (58, .ireturn, 59, 0, 0), (59, .iload 4, 61, 0, 0), (61, .bipush 8, 63, 8, 0), (63, .if_icmp .ge 13, 66, 0, 76), (66, .aload_n 0, 67, 0, 0), (67, .getfield 13, 70, 0, 127), (70, .iload_n 3, 71, 0, 0), (71, .iconst 1, 72, 1, 0), (72, .iadd, 73, 0, 0), (73, .iaload, 74, 0, 0), (74, .istore 4, 76, 0, 0), (76, .iload 4, 78, 0, 0), (78, .sipush 250, 81, 250, 0), (81, .if_icmp .ne 7, 84, 0, 88), (84, .iconst 1, 85, 1, 0), (85, .goto 87, 88, 0, 172), (88, .iload 4, 90, 0, 0), (90, .sipush 253, 93, 253, 0), (93, .if_icmp .ne 7, 96, 0, 100), (96, .iconst 2, 97, 2, 0), (97, .goto 75, 100, 0, 172), (100, .iload 4, 102, 0, 0), (102, .sipush 241, 105, 241, 0), (105, .if_icmp .ne 7, 108, 0, 112), (108, .iconst 3, 109, 3, 0)]
def CX11_wrong_2 : List zEn := [(109, .goto 63, 112, 0, 172), (112, .iload 4, 114, 0, 0), (114, .sipush 242, 117, 242, 0), (117, .if_icmp .eq 11, 120, 0, 128), (120, .iload 4, 122, 0, 0), (122, .sipush 243, 125, 243, 0), (125, .if_icmp .ne 7, 128, 0, 132), (128, .iconst 4, 129, 4, 0), (129, .goto 43, 132, 0, 172), (132, .iload 4, 134, 0, 0), (134, .sipush 245, 137, 245, 0), (137, .if_icmp .ne 7, 140, 0, 144), (140, .iconst 5, 141, 5, 0), (141, .goto 31, 144, 0, 172), (144, .iload 4, 146, 0, 0), (146, .sipush 248, 149, 248, 0), (149, .if_icmp .ne 8, 152, 0, 157), (152, .bipush 6, 154, 6, 0), (154, .goto 18, 157, 0, 172), (157, .iload 4, 159, 0, 0), (159, .sipush 249, 162, 249, 0), (162, .if_icmp .ne 8, 165, 0, 170), (165, .bipush 7, 167, 7, 0), (167, .goto 5, 170, 0, 172), (170, .bipush 8, 172, 8, 0), (172, .ireturn, 173, 0, 0)]
def MX11_wrong : zMI := (yX11_wrong, cX11_wrong, 5, (some .int), [(50, CX11_wrong_0), (109, CX11_wrong_1), (99999, CX11_wrong_2)], [])
theorem DX11_wrong_0 : CX11_wrong_0.all (zchk cX11_wrong) = true := by decide +kernel
theorem DX11_wrong_1 : CX11_wrong_1.all (zchk cX11_wrong) = true := by decide +kernel
theorem DX11_wrong_2 : CX11_wrong_2.all (zchk cX11_wrong) = true := by decide +kernel
theorem OX11_wrong : zMOK MX11_wrong := by
  intro q hq e he
  simp only [MX11_wrong, zFt, List.mem_cons, List.not_mem_nil, or_false] at hq
  rcases hq with rfl | rfl | rfl
  · exact List.all_eq_true.mp DX11_wrong_0 e he
  · exact List.all_eq_true.mp DX11_wrong_1 e he
  · exact List.all_eq_true.mp DX11_wrong_2 e he
theorem KX11_wrong : zMK MX11_wrong := ⟨OX11_wrong, by decide +kernel, z_in (List.mem_of_getElem? (i := 1279) (by decide +kernel)), z_in (List.mem_of_getElem? (i := 11) (by decide +kernel)), by decide +kernel, by decide +kernel⟩
theorem IX11_wrong : Jvm.Cond.instanceMethod yX11_wrong ∈ lw_tbl := z_in (List.mem_of_getElem? (i := 1278) (by decide +kernel))
theorem VX11_wrong : Jvm.Cond.selects "ShadowWardModel" yX11_wrong yX11_wrong ∈ lw_tbl := List.mem_append_left _ (List.mem_of_getElem? (i := 40) (by decide +kernel))
def CX11_right_0 : List zEn := [(0, .iload_n 3, 1, 0, 0), (1, .istore 7, 3, 0, 0), (3, .iload 7, 5, 0, 0), (5, .iload 4, 7, 0, 0), (7, .if_icmp .ge 45, 10, 0, 52), (10, .aload_n 0, 11, 0, 0), (11, .lload_n 1, 12, 0, 0), (12, .iload 7, 14, 0, 0), (14, .i2l, 15, 0, 0), (15, .ladd, 16, 0, 0), (16, .invokevirtual 173, 19, 0, 244), (19, .istore 8, 21, 0, 0), (21, .iload 8, 23, 0, 0), (23, .ifCond .ne 6, 26, 0, 29), (26, .goto 20, 29, 0, 46), (29, .aload_n 0, 30, 0, 0), (30, .iload 8, 32, 0, 0), (32, .lload_n 1, 33, 0, 0), (33, .iload 7, 35, 0, 0), (35, .i2l, 36, 0, 0), (36, .ladd, 37, 0, 0), (37, .iload 5, 39, 0, 0), (39, .iload 6, 41, 0, 0), (41, .invokevirtual 147, 44, 0, 235), (44, .iconst 0, 45, 0, 0), (45, .ireturn, 46, 0, 0), (46, .iinc 7 1, 49, 1, 0), (49, .goto (-46), 52, 0, 3), (52, .iconst 1, 53, 1, 0), (53, .ireturn, 54, 0, 0)]
def MX11_right : zMI := (yX11_right, cX11_right, 9, (some .boolean), [(99999, CX11_right_0)], [])
theorem DX11_right_0 : CX11_right_0.all (zchk cX11_right) = true := by decide +kernel
theorem OX11_right : zMOK MX11_right := by
  intro q hq e he
  simp only [MX11_right, zFt, List.mem_cons, List.not_mem_nil, or_false] at hq
  rcases hq with rfl
  · exact List.all_eq_true.mp DX11_right_0 e he
theorem KX11_right : zMK MX11_right := ⟨OX11_right, by decide +kernel, z_in (List.mem_of_getElem? (i := 1275) (by decide +kernel)), z_in (List.mem_of_getElem? (i := 11) (by decide +kernel)), by decide +kernel, by decide +kernel⟩
theorem IX11_right : Jvm.Cond.instanceMethod yX11_right ∈ lw_tbl := z_in (List.mem_of_getElem? (i := 1274) (by decide +kernel))
theorem VX11_right : Jvm.Cond.selects "ShadowWardModel" yX11_right yX11_right ∈ lw_tbl := List.mem_append_left _ (List.mem_of_getElem? (i := 39) (by decide +kernel))
def CX11_load_0 : List zEn := [(0, .aload_n 0, 1, 0, 0), (1, .iload_n 2, 2, 0, 0), (2, .iconst 1, 3, 1, 0), (3, .if_icmp .lt 9, 6, 0, 12), (6, .iload_n 2, 7, 0, 0), (7, .bipush 8, 9, 8, 0), (9, .if_icmp .le 7, 12, 0, 16), (12, .iconst 1, 13, 1, 0), (13, .goto 4, 16, 0, 17), (16, .iconst 0, 17, 0, 0), (17, .invokevirtual 88, 20, 0, 216), (20, .ifCond .ne 16, 23, 0, 36), (23, .aload_n 0, 24, 0, 0), (24, .iload_n 1, 25, 0, 0), (25, .i2l, 26, 0, 0), (26, .iconst 0, 27, 0, 0), (27, .iload_n 2, 28, 0, 0), (28, .iload_n 2, 29, 0, 0), (29, .iconst 0, 30, 0, 0), (30, .invokevirtual 177, 33, 0, 243), (33, .ifCond .ne 5, 36, 0, 38), (36, .lconst 0, 37, 0, 0), (37, .lreturn, 38, 0, 0), (38, .lconst 0, 39, 0, 0), (39, .lstore_n 3, 40, 0, 0), (40, .iload_n 2, 41, 0, 0), (41, .iconst 1, 42, 1, 0), (42, .isub, 43, 0, 0), (43, .istore 5, 45, 0, 0), (45, .iload 5, 47, 0, 0)]
def CX11_load_1 : List zEn := [(47, .ifCond .lt 29, 50, 0, 76), (50, .lload_n 3, 51, 0, 0), (51, .bipush 8, 53, 8, 0), (53, .lshl, 54, 0, 0), (54, .aload_n 0, 55, 0, 0), (55, .getfield 7, 58, 0, 126), (58, .iload_n 1, 59, 0, 0), (59, .iload 5, 61, 0, 0), (61, .iadd, 62, 0, 0), (62, .baload, 63, 0, 0), (63, .sipush 255, 66, 255, 0), (66, .iand, 67, 0, 0), (67, .i2l, 68, 0, 0), (68, .lor, 69, 0, 0), (69, .lstore_n 3, 70, 0, 0), (70, .iinc 5 (-1), 73, (-1), 0), (73, .goto (-28), 76, 0, 45), (76, .lload_n 3, 77, 0, 0), (77, .lreturn, 78, 0, 0)]
def MX11_load : zMI := (yX11_load, cX11_load, 6, (some .long), [(47, CX11_load_0), (99999, CX11_load_1)], [])
theorem DX11_load_0 : CX11_load_0.all (zchk cX11_load) = true := by decide +kernel
theorem DX11_load_1 : CX11_load_1.all (zchk cX11_load) = true := by decide +kernel
theorem OX11_load : zMOK MX11_load := by
  intro q hq e he
  simp only [MX11_load, zFt, List.mem_cons, List.not_mem_nil, or_false] at hq
  rcases hq with rfl | rfl
  · exact List.all_eq_true.mp DX11_load_0 e he
  · exact List.all_eq_true.mp DX11_load_1 e he
theorem KX11_load : zMK MX11_load := ⟨OX11_load, by decide +kernel, z_in (List.mem_of_getElem? (i := 1271) (by decide +kernel)), z_in (List.mem_of_getElem? (i := 11) (by decide +kernel)), by decide +kernel, by decide +kernel⟩
theorem IX11_load : Jvm.Cond.instanceMethod yX11_load ∈ lw_tbl := z_in (List.mem_of_getElem? (i := 1269) (by decide +kernel))
theorem VX11_load : Jvm.Cond.selects "ShadowWardModel" yX11_load yX11_load ∈ lw_tbl := z_in (List.mem_of_getElem? (i := 1270) (by decide +kernel))
def CX11_store_0 : List zEn := [(0, .aload_n 0, 1, 0, 0), (1, .iload_n 2, 2, 0, 0), (2, .iconst 1, 3, 1, 0), (3, .if_icmp .lt 9, 6, 0, 12), (6, .iload_n 2, 7, 0, 0), (7, .bipush 8, 9, 8, 0), (9, .if_icmp .le 7, 12, 0, 16), (12, .iconst 1, 13, 1, 0), (13, .goto 4, 16, 0, 17), (16, .iconst 0, 17, 0, 0), (17, .invokevirtual 88, 20, 0, 216), (20, .ifCond .ne 16, 23, 0, 36), (23, .aload_n 0, 24, 0, 0), (24, .iload_n 1, 25, 0, 0), (25, .i2l, 26, 0, 0), (26, .iconst 0, 27, 0, 0), (27, .iload_n 2, 28, 0, 0), (28, .iload_n 2, 29, 0, 0), (29, .iconst 1, 30, 1, 0), (30, .invokevirtual 177, 33, 0, 243), (33, .ifCond .ne 5, 36, 0, 38), (36, .iconst 0, 37, 0, 0), (37, .ireturn, 38, 0, 0), (38, .iconst 0, 39, 0, 0), (39, .istore 5, 41, 0, 0), (41, .iload 5, 43, 0, 0), (43, .iload_n 2, 44, 0, 0), (44, .if_icmp .ge 27, 47, 0, 71), (47, .aload_n 0, 48, 0, 0), (48, .getfield 7, 51, 0, 126)]
def CX11_store_1 : List zEn := [(51, .iload_n 1, 52, 0, 0), (52, .iload 5, 54, 0, 0), (54, .iadd, 55, 0, 0), (55, .lload_n 3, 56, 0, 0), (56, .bipush 8, 58, 8, 0), (58, .iload 5, 60, 0, 0), (60, .imul, 61, 0, 0), (61, .lushr, 62, 0, 0), (62, .l2i, 63, 0, 0), (63, .i2b, 64, 0, 0), (64, .bastore, 65, 0, 0), (65, .iinc 5 1, 68, 1, 0), (68, .goto (-27), 71, 0, 41), (71, .iconst 1, 72, 1, 0), (72, .ireturn, 73, 0, 0)]
def MX11_store : zMI := (yX11_store, cX11_store, 6, (some .boolean), [(51, CX11_store_0), (99999, CX11_store_1)], [])
theorem DX11_store_0 : CX11_store_0.all (zchk cX11_store) = true := by decide +kernel
theorem DX11_store_1 : CX11_store_1.all (zchk cX11_store) = true := by decide +kernel
theorem OX11_store : zMOK MX11_store := by
  intro q hq e he
  simp only [MX11_store, zFt, List.mem_cons, List.not_mem_nil, or_false] at hq
  rcases hq with rfl | rfl
  · exact List.all_eq_true.mp DX11_store_0 e he
  · exact List.all_eq_true.mp DX11_store_1 e he
theorem KX11_store : zMK MX11_store := ⟨OX11_store, by decide +kernel, z_in (List.mem_of_getElem? (i := 1284) (by decide +kernel)), z_in (List.mem_of_getElem? (i := 11) (by decide +kernel)), by decide +kernel, by decide +kernel⟩
theorem IX11_store : Jvm.Cond.instanceMethod yX11_store ∈ lw_tbl := z_in (List.mem_of_getElem? (i := 1282) (by decide +kernel))
theorem VX11_store : Jvm.Cond.selects "ShadowWardModel" yX11_store yX11_store ∈ lw_tbl := z_in (List.mem_of_getElem? (i := 1283) (by decide +kernel))
def CX11_noAmount_0 : List zEn := [(0, .iload_n 1, 1, 0, 0), (1, .ifCond .lt 11, 4, 0, 12), (4, .iload_n 1, 5, 0, 0), (5, .aload_n 0, 6, 0, 0), (6, .getfield 78, 9, 0, 124), (9, .if_icmp .le 7, 12, 0, 16), (12, .iconst 1, 13, 1, 0), (13, .goto 4, 16, 0, 17), (16, .iconst 0, 17, 0, 0), (17, .ireturn, 18, 0, 0)]
def MX11_noAmount : zMI := (yX11_noAmount, cX11_noAmount, 2, (some .boolean), [(99999, CX11_noAmount_0)], [])
theorem DX11_noAmount_0 : CX11_noAmount_0.all (zchk cX11_noAmount) = true := by decide +kernel
theorem OX11_noAmount : zMOK MX11_noAmount := by
  intro q hq e he
  simp only [MX11_noAmount, zFt, List.mem_cons, List.not_mem_nil, or_false] at hq
  rcases hq with rfl
  · exact List.all_eq_true.mp DX11_noAmount_0 e he
theorem KX11_noAmount : zMK MX11_noAmount := ⟨OX11_noAmount, by decide +kernel, z_in (List.mem_of_getElem? (i := 1292) (by decide +kernel)), z_in (List.mem_of_getElem? (i := 11) (by decide +kernel)), by decide +kernel, by decide +kernel⟩
theorem IX11_noAmount : Jvm.Cond.instanceMethod yX11_noAmount ∈ lw_tbl := z_in (List.mem_of_getElem? (i := 1291) (by decide +kernel))
theorem VX11_noAmount : Jvm.Cond.selects "ShadowWardModel" yX11_noAmount yX11_noAmount ∈ lw_tbl := List.mem_append_left _ (List.mem_of_getElem? (i := 41) (by decide +kernel))
def CX11_fill_0 : List zEn := [(0, .aload_n 0, 1, 0, 0), (1, .aload_n 0, 2, 0, 0), (2, .iload_n 2, 3, 0, 0), (3, .invokevirtual 181, 6, 0, 247), (6, .ifCond .eq 7, 9, 0, 13), (9, .iconst 1, 10, 1, 0), (10, .goto 4, 13, 0, 14), (13, .iconst 0, 14, 0, 0), (14, .invokevirtual 88, 17, 0, 216), (17, .ifCond .ne 16, 20, 0, 33), (20, .aload_n 0, 21, 0, 0), (21, .iload_n 1, 22, 0, 0), (22, .i2l, 23, 0, 0), (23, .iconst 0, 24, 0, 0), (24, .iload_n 2, 25, 0, 0), (25, .iload_n 2, 26, 0, 0), (26, .iconst 1, 27, 1, 0), (27, .invokevirtual 177, 30, 0, 243), (30, .ifCond .ne 5, 33, 0, 35), (33, .iconst 0, 34, 0, 0), (34, .ireturn, 35, 0, 0), (35, .iconst 0, 36, 0, 0), (36, .istore 4, 38, 0, 0), (38, .iload 4, 40, 0, 0), (40, .iload_n 2, 41, 0, 0), (41, .if_icmp .ge 20, 44, 0, 61), (44, .aload_n 0, 45, 0, 0), (45, .getfield 7, 48, 0, 126), (48, .iload_n 1, 49, 0, 0), (49, .iload 4, 51, 0, 0)]
def CX11_fill_1 : List zEn := [(51, .iadd, 52, 0, 0), (52, .iload_n 3, 53, 0, 0), (53, .i2b, 54, 0, 0), (54, .bastore, 55, 0, 0), (55, .iinc 4 1, 58, 1, 0), (58, .goto (-20), 61, 0, 38), (61, .iconst 1, 62, 1, 0), (62, .ireturn, 63, 0, 0)]
def MX11_fill : zMI := (yX11_fill, cX11_fill, 5, (some .boolean), [(51, CX11_fill_0), (99999, CX11_fill_1)], [])
theorem DX11_fill_0 : CX11_fill_0.all (zchk cX11_fill) = true := by decide +kernel
theorem DX11_fill_1 : CX11_fill_1.all (zchk cX11_fill) = true := by decide +kernel
theorem OX11_fill : zMOK MX11_fill := by
  intro q hq e he
  simp only [MX11_fill, zFt, List.mem_cons, List.not_mem_nil, or_false] at hq
  rcases hq with rfl | rfl
  · exact List.all_eq_true.mp DX11_fill_0 e he
  · exact List.all_eq_true.mp DX11_fill_1 e he
theorem KX11_fill : zMK MX11_fill := ⟨OX11_fill, by decide +kernel, z_in (List.mem_of_getElem? (i := 1288) (by decide +kernel)), z_in (List.mem_of_getElem? (i := 11) (by decide +kernel)), by decide +kernel, by decide +kernel⟩
theorem IX11_fill : Jvm.Cond.instanceMethod yX11_fill ∈ lw_tbl := z_in (List.mem_of_getElem? (i := 1286) (by decide +kernel))
theorem VX11_fill : Jvm.Cond.selects "ShadowWardModel" yX11_fill yX11_fill ∈ lw_tbl := z_in (List.mem_of_getElem? (i := 1287) (by decide +kernel))
def CX11_copies_0 : List zEn := [(0, .iload_n 1, 1, 0, 0), (1, .iload_n 2, 2, 0, 0), (2, .if_icmp .le 11, 5, 0, 13), (5, .iload_n 1, 6, 0, 0), (6, .i2l, 7, 0, 0), (7, .iload_n 2, 8, 0, 0), (8, .i2l, 9, 0, 0), (9, .lsub, 10, 0, 0), (10, .goto 8, 13, 0, 18), (13, .iload_n 2, 14, 0, 0), (14, .i2l, 15, 0, 0), (15, .iload_n 1, 16, 0, 0), (16, .i2l, 17, 0, 0), (17, .lsub, 18, 0, 0), (18, .lstore 5, 20, 0, 0), (20, .iload 4, 22, 0, 0), (22, .ifCond .ne 27, 25, 0, 49), (25, .iload_n 3, 26, 0, 0), (26, .ifCond .le 23, 29, 0, 49), (29, .lload 5, 31, 0, 0), (31, .iload_n 3, 32, 0, 0), (32, .i2l, 33, 0, 0), (33, .lcmp, 34, 0, 0), (34, .ifCond .ge 15, 37, 0, 49), (37, .aload_n 0, 38, 0, 0), (38, .bipush 13, 40, 13, 0), (40, .iload_n 1, 41, 0, 0), (41, .i2l, 42, 0, 0), (42, .iload_n 3, 43, 0, 0), (43, .iconst 1, 44, 1, 0)]
def CX11_copies_1 : List zEn := [(44, .invokevirtual 147, 47, 0, 235), (47, .iconst 0, 48, 0, 0), (48, .ireturn, 49, 0, 0), (49, .aload_n 0, 50, 0, 0), (50, .iload_n 2, 51, 0, 0), (51, .i2l, 52, 0, 0), (52, .iconst 0, 53, 0, 0), (53, .iload_n 3, 54, 0, 0), (54, .iload_n 3, 55, 0, 0), (55, .iconst 0, 56, 0, 0), (56, .invokevirtual 177, 59, 0, 243), (59, .ifCond .eq 16, 62, 0, 75), (62, .aload_n 0, 63, 0, 0), (63, .iload_n 1, 64, 0, 0), (64, .i2l, 65, 0, 0), (65, .iconst 0, 66, 0, 0), (66, .iload_n 3, 67, 0, 0), (67, .iload_n 3, 68, 0, 0), (68, .iconst 1, 69, 1, 0), (69, .invokevirtual 177, 72, 0, 243), (72, .ifCond .ne 5, 75, 0, 77), (75, .iconst 0, 76, 0, 0), (76, .ireturn, 77, 0, 0), (77, .iconst 0, 78, 0, 0), (78, .istore 7, 80, 0, 0), (80, .iload 7, 82, 0, 0), (82, .iload_n 3, 83, 0, 0), (83, .if_icmp .ge 25, 86, 0, 108), (86, .aload_n 0, 87, 0, 0), (87, .getfield 75, 90, 0, 152)]
def CX11_copies_2 : List zEn := [(90, .iload 7, 92, 0, 0), (92, .aload_n 0, 93, 0, 0), (93, .getfield 7, 96, 0, 126), (96, .iload_n 2, 97, 0, 0), (97, .iload 7, 99, 0, 0), (99, .iadd, 100, 0, 0), (100, .baload, 101, 0, 0), (101, .bastore, 102, 0, 0), (102, .iinc 7 1, 105, 1, 0), (105, .goto (-25), 108, 0, 80), (108, .iconst 0, 109, 0, 0), (109, .istore 7, 111, 0, 0), (111, .iload 7, 113, 0, 0), (113, .iload_n 3, 114, 0, 0), (114, .if_icmp .ge 25, 117, 0, 139), (117, .aload_n 0, 118, 0, 0), (118, .getfield 7, 121, 0, 126), (121, .iload_n 1, 122, 0, 0), (122, .iload 7, 124, 0, 0), (124, .iadd, 125, 0, 0), (125, .aload_n 0, 126, 0, 0), (126, .getfield 75, 129, 0, 152), (129, .iload 7, 131, 0, 0), (131, .baload, 132, 0, 0), (132, .bastore, 133, 0, 0), (133, .iinc 7 1, 136, 1, 0), (136, .goto (-25), 139, 0, 111), (139, .iconst 1, 140, 1, 0), (140, .ireturn, 141, 0, 0)]
def MX11_copies : zMI := (yX11_copies, cX11_copies, 8, (some .boolean), [(44, CX11_copies_0), (90, CX11_copies_1), (99999, CX11_copies_2)], [])
theorem DX11_copies_0 : CX11_copies_0.all (zchk cX11_copies) = true := by decide +kernel
theorem DX11_copies_1 : CX11_copies_1.all (zchk cX11_copies) = true := by decide +kernel
theorem DX11_copies_2 : CX11_copies_2.all (zchk cX11_copies) = true := by decide +kernel
theorem OX11_copies : zMOK MX11_copies := by
  intro q hq e he
  simp only [MX11_copies, zFt, List.mem_cons, List.not_mem_nil, or_false] at hq
  rcases hq with rfl | rfl | rfl
  · exact List.all_eq_true.mp DX11_copies_0 e he
  · exact List.all_eq_true.mp DX11_copies_1 e he
  · exact List.all_eq_true.mp DX11_copies_2 e he
theorem KX11_copies : zMK MX11_copies := ⟨OX11_copies, by decide +kernel, z_in (List.mem_of_getElem? (i := 1300) (by decide +kernel)), z_in (List.mem_of_getElem? (i := 11) (by decide +kernel)), by decide +kernel, by decide +kernel⟩
theorem IX11_copies : Jvm.Cond.instanceMethod yX11_copies ∈ lw_tbl := z_in (List.mem_of_getElem? (i := 1299) (by decide +kernel))
theorem VX11_copies : Jvm.Cond.selects "ShadowWardModel" yX11_copies yX11_copies ∈ lw_tbl := List.mem_append_left _ (List.mem_of_getElem? (i := 42) (by decide +kernel))
def CX11_copy_0 : List zEn := [(0, .aload_n 0, 1, 0, 0), (1, .aload_n 0, 2, 0, 0), (2, .iload_n 3, 3, 0, 0), (3, .invokevirtual 181, 6, 0, 247), (6, .ifCond .eq 7, 9, 0, 13), (9, .iconst 1, 10, 1, 0), (10, .goto 4, 13, 0, 14), (13, .iconst 0, 14, 0, 0), (14, .invokevirtual 88, 17, 0, 216), (17, .ifCond .ne 19, 20, 0, 36), (20, .aload_n 0, 21, 0, 0), (21, .iload_n 1, 22, 0, 0), (22, .iload_n 2, 23, 0, 0), (23, .iload_n 3, 24, 0, 0), (24, .iload 4, 26, 0, 0), (26, .invokevirtual 184, 29, 0, 249), (29, .ifCond .eq 7, 32, 0, 36), (32, .iconst 1, 33, 1, 0), (33, .goto 4, 36, 0, 37), (36, .iconst 0, 37, 0, 0), (37, .ireturn, 38, 0, 0)]
def MX11_copy : zMI := (yX11_copy, cX11_copy, 5, (some .boolean), [(99999, CX11_copy_0)], [])
theorem DX11_copy_0 : CX11_copy_0.all (zchk cX11_copy) = true := by decide +kernel
theorem OX11_copy : zMOK MX11_copy := by
  intro q hq e he
  simp only [MX11_copy, zFt, List.mem_cons, List.not_mem_nil, or_false] at hq
  rcases hq with rfl
  · exact List.all_eq_true.mp DX11_copy_0 e he
theorem KX11_copy : zMK MX11_copy := ⟨OX11_copy, by decide +kernel, z_in (List.mem_of_getElem? (i := 1296) (by decide +kernel)), z_in (List.mem_of_getElem? (i := 11) (by decide +kernel)), by decide +kernel, by decide +kernel⟩
theorem IX11_copy : Jvm.Cond.instanceMethod yX11_copy ∈ lw_tbl := z_in (List.mem_of_getElem? (i := 1294) (by decide +kernel))
theorem VX11_copy : Jvm.Cond.selects "ShadowWardModel" yX11_copy yX11_copy ∈ lw_tbl := z_in (List.mem_of_getElem? (i := 1295) (by decide +kernel))
def CX11_lengthOf_0 : List zEn := [(0, .iconst 0, 1, 0, 0), (1, .istore_n 2, 2, 0, 0), (2, .aload_n 0, 3, 0, 0), (3, .iload_n 1, 4, 0, 0), (4, .i2l, 5, 0, 0), (5, .iload_n 2, 6, 0, 0), (6, .iload_n 2, 7, 0, 0), (7, .iconst 1, 8, 1, 0), (8, .iadd, 9, 0, 0), (9, .iconst 1, 10, 1, 0), (10, .iconst 0, 11, 0, 0), (11, .invokevirtual 177, 14, 0, 243), (14, .ifCond .eq 22, 17, 0, 36), (17, .aload_n 0, 18, 0, 0), (18, .getfield 7, 21, 0, 126), (21, .iload_n 1, 22, 0, 0), (22, .iload_n 2, 23, 0, 0), (23, .iadd, 24, 0, 0), (24, .baload, 25, 0, 0), (25, .ifCond .ne 5, 28, 0, 30), (28, .iload_n 2, 29, 0, 0), (29, .ireturn, 30, 0, 0), (30, .iinc 2 1, 33, 1, 0), (33, .goto (-31), 36, 0, 2), (36, .iconst (-1), 37, (-1), 0), (37, .ireturn, 38, 0, 0)]
def MX11_lengthOf : zMI := (yX11_lengthOf, cX11_lengthOf, 3, (some .int), [(99999, CX11_lengthOf_0)], [])
theorem DX11_lengthOf_0 : CX11_lengthOf_0.all (zchk cX11_lengthOf) = true := by decide +kernel
theorem OX11_lengthOf : zMOK MX11_lengthOf := by
  intro q hq e he
  simp only [MX11_lengthOf, zFt, List.mem_cons, List.not_mem_nil, or_false] at hq
  rcases hq with rfl
  · exact List.all_eq_true.mp DX11_lengthOf_0 e he
theorem KX11_lengthOf : zMK MX11_lengthOf := ⟨OX11_lengthOf, by decide +kernel, z_in (List.mem_of_getElem? (i := 1308) (by decide +kernel)), z_in (List.mem_of_getElem? (i := 11) (by decide +kernel)), by decide +kernel, by decide +kernel⟩
theorem IX11_lengthOf : Jvm.Cond.instanceMethod yX11_lengthOf ∈ lw_tbl := z_in (List.mem_of_getElem? (i := 1307) (by decide +kernel))
theorem VX11_lengthOf : Jvm.Cond.selects "ShadowWardModel" yX11_lengthOf yX11_lengthOf ∈ lw_tbl := List.mem_append_left _ (List.mem_of_getElem? (i := 43) (by decide +kernel))
def CX11_length_0 : List zEn := [(0, .aload_n 0, 1, 0, 0), (1, .iconst 0, 2, 0, 0), (2, .putfield 85, 5, 0, 123), (5, .aload_n 0, 6, 0, 0), (6, .iload_n 1, 7, 0, 0), (7, .invokevirtual 188, 10, 0, 251), (10, .ireturn, 11, 0, 0)]
def MX11_length : zMI := (yX11_length, cX11_length, 2, (some .int), [(99999, CX11_length_0)], [])
theorem DX11_length_0 : CX11_length_0.all (zchk cX11_length) = true := by decide +kernel
theorem OX11_length : zMOK MX11_length := by
  intro q hq e he
  simp only [MX11_length, zFt, List.mem_cons, List.not_mem_nil, or_false] at hq
  rcases hq with rfl
  · exact List.all_eq_true.mp DX11_length_0 e he
theorem KX11_length : zMK MX11_length := ⟨OX11_length, by decide +kernel, z_in (List.mem_of_getElem? (i := 1304) (by decide +kernel)), z_in (List.mem_of_getElem? (i := 11) (by decide +kernel)), by decide +kernel, by decide +kernel⟩
theorem IX11_length : Jvm.Cond.instanceMethod yX11_length ∈ lw_tbl := z_in (List.mem_of_getElem? (i := 1302) (by decide +kernel))
theorem VX11_length : Jvm.Cond.selects "ShadowWardModel" yX11_length yX11_length ∈ lw_tbl := z_in (List.mem_of_getElem? (i := 1303) (by decide +kernel))
def CX11_text_0 : List zEn := [(0, .aload_n 0, 1, 0, 0), (1, .iconst 0, 2, 0, 0), (2, .putfield 85, 5, 0, 123), (5, .aload_n 0, 6, 0, 0), (6, .iload_n 2, 7, 0, 0), (7, .invokevirtual 188, 10, 0, 251), (10, .istore_n 3, 11, 0, 0), (11, .iload_n 3, 12, 0, 0), (12, .ifCond .lt 20, 15, 0, 32), (15, .aload_n 0, 16, 0, 0), (16, .iload_n 1, 17, 0, 0), (17, .iload_n 2, 18, 0, 0), (18, .iload_n 3, 19, 0, 0), (19, .iconst 1, 20, 1, 0), (20, .iadd, 21, 0, 0), (21, .iconst 0, 22, 0, 0), (22, .invokevirtual 184, 25, 0, 249), (25, .ifCond .eq 7, 28, 0, 32), (28, .iload_n 3, 29, 0, 0), (29, .goto 4, 32, 0, 33), (32, .iconst (-1), 33, (-1), 0), (33, .ireturn, 34, 0, 0)]
def MX11_text : zMI := (yX11_text, cX11_text, 4, (some .int), [(99999, CX11_text_0)], [])
theorem DX11_text_0 : CX11_text_0.all (zchk cX11_text) = true := by decide +kernel
theorem OX11_text : zMOK MX11_text := by
  intro q hq e he
  simp only [MX11_text, zFt, List.mem_cons, List.not_mem_nil, or_false] at hq
  rcases hq with rfl
  · exact List.all_eq_true.mp DX11_text_0 e he
theorem KX11_text : zMK MX11_text := ⟨OX11_text, by decide +kernel, z_in (List.mem_of_getElem? (i := 1312) (by decide +kernel)), z_in (List.mem_of_getElem? (i := 11) (by decide +kernel)), by decide +kernel, by decide +kernel⟩
theorem IX11_text : Jvm.Cond.instanceMethod yX11_text ∈ lw_tbl := z_in (List.mem_of_getElem? (i := 1310) (by decide +kernel))
theorem VX11_text : Jvm.Cond.selects "ShadowWardModel" yX11_text yX11_text ∈ lw_tbl := z_in (List.mem_of_getElem? (i := 1311) (by decide +kernel))
def CX11_compare_0 : List zEn := [(0, .aload_n 0, 1, 0, 0), (1, .aload_n 0, 2, 0, 0), (2, .iload_n 3, 3, 0, 0), (3, .invokevirtual 181, 6, 0, 247), (6, .ifCond .eq 7, 9, 0, 13), (9, .iconst 1, 10, 1, 0), (10, .goto 4, 13, 0, 14), (13, .iconst 0, 14, 0, 0), (14, .invokevirtual 88, 17, 0, 216), (17, .ifCond .eq 5, 20, 0, 22), (20, .iconst 0, 21, 0, 0), (21, .ireturn, 22, 0, 0), (22, .iconst 0, 23, 0, 0), (23, .istore 4, 25, 0, 0), (25, .iload 4, 27, 0, 0), (27, .iload_n 3, 28, 0, 0), (28, .if_icmp .ge 95, 31, 0, 123), (31, .aload_n 0, 32, 0, 0), (32, .iload_n 1, 33, 0, 0), (33, .i2l, 34, 0, 0), (34, .iload 4, 36, 0, 0), (36, .iload 4, 38, 0, 0), (38, .iconst 1, 39, 1, 0), (39, .iadd, 40, 0, 0), (40, .iconst 1, 41, 1, 0), (41, .iconst 0, 42, 0, 0), (42, .invokevirtual 177, 45, 0, 243), (45, .ifCond .eq 20, 48, 0, 65), (48, .aload_n 0, 49, 0, 0), (49, .iload_n 2, 50, 0, 0)]
def CX11_compare_1 : List zEn := [(50, .i2l, 51, 0, 0), (51, .iload 4, 53, 0, 0), (53, .iload 4, 55, 0, 0), (55, .iconst 1, 56, 1, 0), (56, .iadd, 57, 0, 0), (57, .iconst 1, 58, 1, 0), (58, .iconst 0, 59, 0, 0), (59, .invokevirtual 177, 62, 0, 243), (62, .ifCond .ne 5, 65, 0, 67), (65, .iconst 2, 66, 2, 0), (66, .ireturn, 67, 0, 0), (67, .aload_n 0, 68, 0, 0), (68, .getfield 7, 71, 0, 126), (71, .iload_n 1, 72, 0, 0), (72, .iload 4, 74, 0, 0), (74, .iadd, 75, 0, 0), (75, .baload, 76, 0, 0), (76, .sipush 255, 79, 255, 0), (79, .iand, 80, 0, 0), (80, .istore 5, 82, 0, 0), (82, .aload_n 0, 83, 0, 0), (83, .getfield 7, 86, 0, 126), (86, .iload_n 2, 87, 0, 0), (87, .iload 4, 89, 0, 0), (89, .iadd, 90, 0, 0), (90, .baload, 91, 0, 0), (91, .sipush 255, 94, 255, 0), (94, .iand, 95, 0, 0), (95, .istore 6, 97, 0, 0), (97, .iload 5, 99, 0, 0)]
def CX11_compare_2 : List zEn := [(99, .iload 6, 101, 0, 0), (101, .if_icmp .eq 16, 104, 0, 117), (104, .iload 5, 106, 0, 0), (106, .iload 6, 108, 0, 0), (108, .if_icmp .ge 7, 111, 0, 115), (111, .iconst (-1), 112, (-1), 0), (112, .goto 4, 115, 0, 116), (115, .iconst 1, 116, 1, 0), (116, .ireturn, 117, 0, 0), (117, .iinc 4 1, 120, 1, 0), (120, .goto (-95), 123, 0, 25), (123, .iconst 0, 124, 0, 0), (124, .ireturn, 125, 0, 0)]
def MX11_compare : zMI := (yX11_compare, cX11_compare, 7, (some .int), [(50, CX11_compare_0), (99, CX11_compare_1), (99999, CX11_compare_2)], [])
theorem DX11_compare_0 : CX11_compare_0.all (zchk cX11_compare) = true := by decide +kernel
theorem DX11_compare_1 : CX11_compare_1.all (zchk cX11_compare) = true := by decide +kernel
theorem DX11_compare_2 : CX11_compare_2.all (zchk cX11_compare) = true := by decide +kernel
theorem OX11_compare : zMOK MX11_compare := by
  intro q hq e he
  simp only [MX11_compare, zFt, List.mem_cons, List.not_mem_nil, or_false] at hq
  rcases hq with rfl | rfl | rfl
  · exact List.all_eq_true.mp DX11_compare_0 e he
  · exact List.all_eq_true.mp DX11_compare_1 e he
  · exact List.all_eq_true.mp DX11_compare_2 e he
theorem KX11_compare : zMK MX11_compare := ⟨OX11_compare, by decide +kernel, z_in (List.mem_of_getElem? (i := 1316) (by decide +kernel)), z_in (List.mem_of_getElem? (i := 11) (by decide +kernel)), by decide +kernel, by decide +kernel⟩
theorem IX11_compare : Jvm.Cond.instanceMethod yX11_compare ∈ lw_tbl := z_in (List.mem_of_getElem? (i := 1314) (by decide +kernel))
theorem VX11_compare : Jvm.Cond.selects "ShadowWardModel" yX11_compare yX11_compare ∈ lw_tbl := z_in (List.mem_of_getElem? (i := 1315) (by decide +kernel))
def CX11_change_0 : List zEn := [(0, .aload_n 0, 1, 0, 0), (1, .aload_n 0, 2, 0, 0), (2, .iload_n 2, 3, 0, 0), (3, .invokevirtual 181, 6, 0, 247), (6, .ifCond .ne 25, 9, 0, 31), (9, .iload_n 2, 10, 0, 0), (10, .ifCond .le 25, 13, 0, 35), (13, .iload_n 1, 14, 0, 0), (14, .ifCond .lt 17, 17, 0, 31), (17, .iload_n 1, 18, 0, 0), (18, .i2l, 19, 0, 0), (19, .iload_n 2, 20, 0, 0), (20, .i2l, 21, 0, 0), (21, .ladd, 22, 0, 0), (22, .aload_n 0, 23, 0, 0), (23, .getfield 78, 26, 0, 124), (26, .i2l, 27, 0, 0), (27, .lcmp, 28, 0, 0), (28, .ifCond .le 7, 31, 0, 35), (31, .iconst 1, 32, 1, 0), (32, .goto 4, 35, 0, 36), (35, .iconst 0, 36, 0, 0), (36, .invokevirtual 88, 39, 0, 216), (39, .ifCond .eq 5, 42, 0, 44), (42, .iconst 0, 43, 0, 0), (43, .ireturn, 44, 0, 0), (44, .iconst 0, 45, 0, 0), (45, .istore 5, 47, 0, 0), (47, .iconst 0, 48, 0, 0), (48, .istore 6, 50, 0, 0)]
def CX11_change_1 : List zEn := [(50, .iload 6, 52, 0, 0), (52, .aload_n 0, 53, 0, 0), (53, .getfield 78, 56, 0, 124), (56, .bipush 8, 58, 8, 0), (58, .idiv, 59, 0, 0), (59, .if_icmp .ge 64, 62, 0, 123), (62, .bipush 8, 64, 8, 0), (64, .iload 6, 66, 0, 0), (66, .imul, 67, 0, 0), (67, .iload_n 1, 68, 0, 0), (68, .if_icmp .lt 49, 71, 0, 117), (71, .ldc2_w 171, 74, 0, 0), (74, .iload 6, 76, 0, 0), (76, .i2l, 77, 0, 0), (77, .lmul, 78, 0, 0), (78, .ldc2_w 171, 81, 0, 0), (81, .ladd, 82, 0, 0), (82, .iload_n 1, 83, 0, 0), (83, .i2l, 84, 0, 0), (84, .iload_n 2, 85, 0, 0), (85, .i2l, 86, 0, 0), (86, .ladd, 87, 0, 0), (87, .lcmp, 88, 0, 0), (88, .ifCond .gt 29, 91, 0, 117), (91, .aload_n 0, 92, 0, 0), (92, .getfield 13, 95, 0, 127), (95, .iload 6, 97, 0, 0), (97, .iaload, 98, 0, 0), (98, .iload_n 3, 99, 0, 0), (99, .if_icmp .eq 6, 102, 0, 105)]
def CX11_change_2 : List zEn := [(102, .goto 15, 105, 0, 117), (105, .aload_n 0, 106, 0, 0), (106, .getfield 13, 109, 0, 127), (109, .iload 6, 111, 0, 0), (111, .iload 4, 113, 0, 0), (113, .iastore, 114, 0, 0), (114, .iinc 5 1, 117, 1, 0), (117, .iinc 6 1, 120, 1, 0), (120, .goto (-70), 123, 0, 50), (123, .iload 5, 125, 0, 0), (125, .ireturn, 126, 0, 0)]
def MX11_change : zMI := (yX11_change, cX11_change, 7, (some .int), [(50, CX11_change_0), (102, CX11_change_1), (99999, CX11_change_2)], [])
theorem DX11_change_0 : CX11_change_0.all (zchk cX11_change) = true := by decide +kernel
theorem DX11_change_1 : CX11_change_1.all (zchk cX11_change) = true := by decide +kernel
theorem DX11_change_2 : CX11_change_2.all (zchk cX11_change) = true := by decide +kernel
theorem OX11_change : zMOK MX11_change := by
  intro q hq e he
  simp only [MX11_change, zFt, List.mem_cons, List.not_mem_nil, or_false] at hq
  rcases hq with rfl | rfl | rfl
  · exact List.all_eq_true.mp DX11_change_0 e he
  · exact List.all_eq_true.mp DX11_change_1 e he
  · exact List.all_eq_true.mp DX11_change_2 e he
theorem KX11_change : zMK MX11_change := ⟨OX11_change, by decide +kernel, z_in (List.mem_of_getElem? (i := 1324) (by decide +kernel)), z_in (List.mem_of_getElem? (i := 11) (by decide +kernel)), by decide +kernel, by decide +kernel⟩
theorem IX11_change : Jvm.Cond.instanceMethod yX11_change ∈ lw_tbl := z_in (List.mem_of_getElem? (i := 1323) (by decide +kernel))
theorem VX11_change : Jvm.Cond.selects "ShadowWardModel" yX11_change yX11_change ∈ lw_tbl := List.mem_append_left _ (List.mem_of_getElem? (i := 44) (by decide +kernel))
def CX11_lock_0 : List zEn := [(0, .aload_n 0, 1, 0, 0), (1, .iload_n 1, 2, 0, 0), (2, .iload_n 2, 3, 0, 0), (3, .iconst 0, 4, 0, 0), (4, .sipush 247, 7, 247, 0), (7, .invokevirtual 191, 10, 0, 255), (10, .ireturn, 11, 0, 0)]
def MX11_lock : zMI := (yX11_lock, cX11_lock, 3, (some .int), [(99999, CX11_lock_0)], [])
theorem DX11_lock_0 : CX11_lock_0.all (zchk cX11_lock) = true := by decide +kernel
theorem OX11_lock : zMOK MX11_lock := by
  intro q hq e he
  simp only [MX11_lock, zFt, List.mem_cons, List.not_mem_nil, or_false] at hq
  rcases hq with rfl
  · exact List.all_eq_true.mp DX11_lock_0 e he
theorem KX11_lock : zMK MX11_lock := ⟨OX11_lock, by decide +kernel, z_in (List.mem_of_getElem? (i := 1320) (by decide +kernel)), z_in (List.mem_of_getElem? (i := 11) (by decide +kernel)), by decide +kernel, by decide +kernel⟩
theorem IX11_lock : Jvm.Cond.instanceMethod yX11_lock ∈ lw_tbl := z_in (List.mem_of_getElem? (i := 1318) (by decide +kernel))
theorem VX11_lock : Jvm.Cond.selects "ShadowWardModel" yX11_lock yX11_lock ∈ lw_tbl := z_in (List.mem_of_getElem? (i := 1319) (by decide +kernel))
def CX11_unlock_0 : List zEn := [(0, .aload_n 0, 1, 0, 0), (1, .iload_n 1, 2, 0, 0), (2, .iload_n 2, 3, 0, 0), (3, .sipush 247, 6, 247, 0), (6, .iconst 0, 7, 0, 0), (7, .invokevirtual 191, 10, 0, 255), (10, .ireturn, 11, 0, 0)]
def MX11_unlock : zMI := (yX11_unlock, cX11_unlock, 3, (some .int), [(99999, CX11_unlock_0)], [])
theorem DX11_unlock_0 : CX11_unlock_0.all (zchk cX11_unlock) = true := by decide +kernel
theorem OX11_unlock : zMOK MX11_unlock := by
  intro q hq e he
  simp only [MX11_unlock, zFt, List.mem_cons, List.not_mem_nil, or_false] at hq
  rcases hq with rfl
  · exact List.all_eq_true.mp DX11_unlock_0 e he
theorem KX11_unlock : zMK MX11_unlock := ⟨OX11_unlock, by decide +kernel, z_in (List.mem_of_getElem? (i := 1328) (by decide +kernel)), z_in (List.mem_of_getElem? (i := 11) (by decide +kernel)), by decide +kernel, by decide +kernel⟩
theorem IX11_unlock : Jvm.Cond.instanceMethod yX11_unlock ∈ lw_tbl := z_in (List.mem_of_getElem? (i := 1326) (by decide +kernel))
theorem VX11_unlock : Jvm.Cond.selects "ShadowWardModel" yX11_unlock yX11_unlock ∈ lw_tbl := z_in (List.mem_of_getElem? (i := 1327) (by decide +kernel))
def CX11_report_0 : List zEn := [(0, .aload_n 0, 1, 0, 0), (1, .iload_n 1, 2, 0, 0), (2, .ifCond .lt 11, 5, 0, 13), (5, .iload_n 1, 6, 0, 0), (6, .aload_n 0, 7, 0, 0), (7, .getfield 157, 10, 0, 150), (10, .if_icmp .lt 7, 13, 0, 17), (13, .iconst 1, 14, 1, 0), (14, .goto 18, 17, 0, 32), (17, .iload_n 2, 18, 0, 0), (18, .ifCond .lt 9, 21, 0, 27), (21, .iload_n 2, 22, 0, 0), (22, .bipush 9, 24, 9, 0), (24, .if_icmp .le 7, 27, 0, 31), (27, .iconst 2, 28, 2, 0), (28, .goto 4, 31, 0, 32), (31, .iconst 0, 32, 0, 0), (32, .invokevirtual 88, 35, 0, 216), (35, .ifCond .eq 7, 38, 0, 42), (38, .iconst 0, 39, 0, 0), (39, .goto 14, 42, 0, 53), (42, .aload_n 0, 43, 0, 0), (43, .getfield 69, 46, 0, 149), (46, .bipush 10, 48, 10, 0), (48, .iload_n 1, 49, 0, 0), (49, .imul, 50, 0, 0), (50, .iload_n 2, 51, 0, 0), (51, .iadd, 52, 0, 0), (52, .iaload, 53, 0, 0), (53, .ireturn, 54, 0, 0)]
def MX11_report : zMI := (yX11_report, cX11_report, 3, (some .int), [(99999, CX11_report_0)], [])
theorem DX11_report_0 : CX11_report_0.all (zchk cX11_report) = true := by decide +kernel
theorem OX11_report : zMOK MX11_report := by
  intro q hq e he
  simp only [MX11_report, zFt, List.mem_cons, List.not_mem_nil, or_false] at hq
  rcases hq with rfl
  · exact List.all_eq_true.mp DX11_report_0 e he
theorem KX11_report : zMK MX11_report := ⟨OX11_report, by decide +kernel, z_in (List.mem_of_getElem? (i := 1332) (by decide +kernel)), z_in (List.mem_of_getElem? (i := 11) (by decide +kernel)), by decide +kernel, by decide +kernel⟩
theorem IX11_report : Jvm.Cond.instanceMethod yX11_report ∈ lw_tbl := z_in (List.mem_of_getElem? (i := 1330) (by decide +kernel))
theorem VX11_report : Jvm.Cond.selects "ShadowWardModel" yX11_report yX11_report ∈ lw_tbl := z_in (List.mem_of_getElem? (i := 1331) (by decide +kernel))
def CX11_block_0 : List zEn := [(0, .aload_n 0, 1, 0, 0), (1, .iload_n 1, 2, 0, 0), (2, .ifCond .lt 11, 5, 0, 13), (5, .iload_n 1, 6, 0, 0), (6, .aload_n 0, 7, 0, 0), (7, .getfield 117, 10, 0, 146), (10, .if_icmp .lt 7, 13, 0, 17), (13, .iconst 1, 14, 1, 0), (14, .goto 18, 17, 0, 32), (17, .iload_n 2, 18, 0, 0), (18, .ifCond .lt 9, 21, 0, 27), (21, .iload_n 2, 22, 0, 0), (22, .bipush 7, 24, 7, 0), (24, .if_icmp .le 7, 27, 0, 31), (27, .iconst 2, 28, 2, 0), (28, .goto 4, 31, 0, 32), (31, .iconst 0, 32, 0, 0), (32, .invokevirtual 88, 35, 0, 216), (35, .ifCond .eq 5, 38, 0, 40), (38, .iconst 0, 39, 0, 0), (39, .ireturn, 40, 0, 0), (40, .iload_n 2, 41, 0, 0), (41, .tableswitch 92 0 6 #[43, 50, 57, 64, 71, 78, 85], 84, 0, 0), (84, .aload_n 0, 85, 0, 0), (85, .getfield 42, 88, 0, 138), (88, .iload_n 1, 89, 0, 0), (89, .iaload, 90, 0, 0), (90, .ireturn, 91, 0, 0), (91, .aload_n 0, 92, 0, 0), (92, .getfield 45, 95, 0, 139)]
def CX11_block_1 : List zEn := [(95, .iload_n 1, 96, 0, 0), (96, .iaload, 97, 0, 0), (97, .ireturn, 98, 0, 0), (98, .aload_n 0, 99, 0, 0), (99, .getfield 48, 102, 0, 140), (102, .iload_n 1, 103, 0, 0), (103, .iaload, 104, 0, 0), (104, .ireturn, 105, 0, 0), (105, .aload_n 0, 106, 0, 0), (106, .getfield 51, 109, 0, 141), (109, .iload_n 1, 110, 0, 0), (110, .iaload, 111, 0, 0), (111, .ireturn, 112, 0, 0), (112, .aload_n 0, 113, 0, 0), (113, .getfield 54, 116, 0, 142), (116, .iload_n 1, 117, 0, 0), (117, .iaload, 118, 0, 0), (118, .ireturn, 119, 0, 0), (119, .aload_n 0, 120, 0, 0), (120, .getfield 57, 123, 0, 143), (123, .iload_n 1, 124, 0, 0), (124, .iaload, 125, 0, 0), (125, .ireturn, 126, 0, 0), (126, .aload_n 0, 127, 0, 0), (127, .getfield 60, 130, 0, 144), (130, .iload_n 1, 131, 0, 0), (131, .iaload, 132, 0, 0), (132, .ireturn, 133, 0, 0), (133, .aload_n 0, 134, 0, 0), (134, .getfield 63, 137, 0, 145)]
def CX11_block_2 : List zEn := [(137, .iload_n 1, 138, 0, 0), (138, .iaload, 139, 0, 0), (139, .ireturn, 140, 0, 0)]
def MX11_block : zMI := (yX11_block, cX11_block, 3, (some .int), [(95, CX11_block_0), (137, CX11_block_1), (99999, CX11_block_2)], [])
theorem DX11_block_0 : CX11_block_0.all (zchk cX11_block) = true := by decide +kernel
theorem DX11_block_1 : CX11_block_1.all (zchk cX11_block) = true := by decide +kernel
theorem DX11_block_2 : CX11_block_2.all (zchk cX11_block) = true := by decide +kernel
theorem OX11_block : zMOK MX11_block := by
  intro q hq e he
  simp only [MX11_block, zFt, List.mem_cons, List.not_mem_nil, or_false] at hq
  rcases hq with rfl | rfl | rfl
  · exact List.all_eq_true.mp DX11_block_0 e he
  · exact List.all_eq_true.mp DX11_block_1 e he
  · exact List.all_eq_true.mp DX11_block_2 e he
theorem KX11_block : zMK MX11_block := ⟨OX11_block, by decide +kernel, z_in (List.mem_of_getElem? (i := 1336) (by decide +kernel)), z_in (List.mem_of_getElem? (i := 11) (by decide +kernel)), by decide +kernel, by decide +kernel⟩
theorem IX11_block : Jvm.Cond.instanceMethod yX11_block ∈ lw_tbl := z_in (List.mem_of_getElem? (i := 1334) (by decide +kernel))
theorem VX11_block : Jvm.Cond.selects "ShadowWardModel" yX11_block yX11_block ∈ lw_tbl := z_in (List.mem_of_getElem? (i := 1335) (by decide +kernel))
def CX11_shadow_0 : List zEn := [(0, .aload_n 0, 1, 0, 0), (1, .iload_n 1, 2, 0, 0), (2, .ifCond .lt 14, 5, 0, 16), (5, .iload_n 1, 6, 0, 0), (6, .aload_n 0, 7, 0, 0), (7, .getfield 78, 10, 0, 124), (10, .bipush 8, 12, 8, 0), (12, .idiv, 13, 0, 0), (13, .if_icmp .lt 7, 16, 0, 20), (16, .iconst 1, 17, 1, 0), (17, .goto 4, 20, 0, 21), (20, .iconst 0, 21, 0, 0), (21, .invokevirtual 88, 24, 0, 216), (24, .ifCond .eq 7, 27, 0, 31), (27, .iconst 0, 28, 0, 0), (28, .goto 9, 31, 0, 37), (31, .aload_n 0, 32, 0, 0), (32, .getfield 13, 35, 0, 127), (35, .iload_n 1, 36, 0, 0), (36, .iaload, 37, 0, 0), (37, .ireturn, 38, 0, 0)]
def MX11_shadow : zMI := (yX11_shadow, cX11_shadow, 2, (some .int), [(99999, CX11_shadow_0)], [])
theorem DX11_shadow_0 : CX11_shadow_0.all (zchk cX11_shadow) = true := by decide +kernel
theorem OX11_shadow : zMOK MX11_shadow := by
  intro q hq e he
  simp only [MX11_shadow, zFt, List.mem_cons, List.not_mem_nil, or_false] at hq
  rcases hq with rfl
  · exact List.all_eq_true.mp DX11_shadow_0 e he
theorem KX11_shadow : zMK MX11_shadow := ⟨OX11_shadow, by decide +kernel, z_in (List.mem_of_getElem? (i := 1340) (by decide +kernel)), z_in (List.mem_of_getElem? (i := 11) (by decide +kernel)), by decide +kernel, by decide +kernel⟩
theorem IX11_shadow : Jvm.Cond.instanceMethod yX11_shadow ∈ lw_tbl := z_in (List.mem_of_getElem? (i := 1338) (by decide +kernel))
theorem VX11_shadow : Jvm.Cond.selects "ShadowWardModel" yX11_shadow yX11_shadow ∈ lw_tbl := z_in (List.mem_of_getElem? (i := 1339) (by decide +kernel))
def CX11_peek_0 : List zEn := [(0, .aload_n 0, 1, 0, 0), (1, .iload_n 1, 2, 0, 0), (2, .ifCond .lt 11, 5, 0, 13), (5, .iload_n 1, 6, 0, 0), (6, .aload_n 0, 7, 0, 0), (7, .getfield 78, 10, 0, 124), (10, .if_icmp .lt 7, 13, 0, 17), (13, .iconst 1, 14, 1, 0), (14, .goto 4, 17, 0, 18), (17, .iconst 0, 18, 0, 0), (18, .invokevirtual 88, 21, 0, 216), (21, .ifCond .eq 7, 24, 0, 28), (24, .iconst 0, 25, 0, 0), (25, .goto 13, 28, 0, 38), (28, .aload_n 0, 29, 0, 0), (29, .getfield 7, 32, 0, 126), (32, .iload_n 1, 33, 0, 0), (33, .baload, 34, 0, 0), (34, .sipush 255, 37, 255, 0), (37, .iand, 38, 0, 0), (38, .ireturn, 39, 0, 0)]
def MX11_peek : zMI := (yX11_peek, cX11_peek, 2, (some .int), [(99999, CX11_peek_0)], [])
theorem DX11_peek_0 : CX11_peek_0.all (zchk cX11_peek) = true := by decide +kernel
theorem OX11_peek : zMOK MX11_peek := by
  intro q hq e he
  simp only [MX11_peek, zFt, List.mem_cons, List.not_mem_nil, or_false] at hq
  rcases hq with rfl
  · exact List.all_eq_true.mp DX11_peek_0 e he
theorem KX11_peek : zMK MX11_peek := ⟨OX11_peek, by decide +kernel, z_in (List.mem_of_getElem? (i := 1344) (by decide +kernel)), z_in (List.mem_of_getElem? (i := 11) (by decide +kernel)), by decide +kernel, by decide +kernel⟩
theorem IX11_peek : Jvm.Cond.instanceMethod yX11_peek ∈ lw_tbl := z_in (List.mem_of_getElem? (i := 1342) (by decide +kernel))
theorem VX11_peek : Jvm.Cond.selects "ShadowWardModel" yX11_peek yX11_peek ∈ lw_tbl := z_in (List.mem_of_getElem? (i := 1343) (by decide +kernel))
def CX11_held_0 : List zEn := [(0, .aload_n 0, 1, 0, 0), (1, .iload_n 1, 2, 0, 0), (2, .ifCond .lt 11, 5, 0, 13), (5, .iload_n 1, 6, 0, 0), (6, .aload_n 0, 7, 0, 0), (7, .getfield 123, 10, 0, 148), (10, .if_icmp .lt 7, 13, 0, 17), (13, .iconst 1, 14, 1, 0), (14, .goto 4, 17, 0, 18), (17, .iconst 0, 18, 0, 0), (18, .invokevirtual 88, 21, 0, 216), (21, .ifCond .eq 7, 24, 0, 28), (24, .iconst 0, 25, 0, 0), (25, .goto 9, 28, 0, 34), (28, .aload_n 0, 29, 0, 0), (29, .getfield 66, 32, 0, 147), (32, .iload_n 1, 33, 0, 0), (33, .iaload, 34, 0, 0), (34, .ireturn, 35, 0, 0)]
def MX11_held : zMI := (yX11_held, cX11_held, 2, (some .int), [(99999, CX11_held_0)], [])
theorem DX11_held_0 : CX11_held_0.all (zchk cX11_held) = true := by decide +kernel
theorem OX11_held : zMOK MX11_held := by
  intro q hq e he
  simp only [MX11_held, zFt, List.mem_cons, List.not_mem_nil, or_false] at hq
  rcases hq with rfl
  · exact List.all_eq_true.mp DX11_held_0 e he
theorem KX11_held : zMK MX11_held := ⟨OX11_held, by decide +kernel, z_in (List.mem_of_getElem? (i := 1348) (by decide +kernel)), z_in (List.mem_of_getElem? (i := 11) (by decide +kernel)), by decide +kernel, by decide +kernel⟩
theorem IX11_held : Jvm.Cond.instanceMethod yX11_held ∈ lw_tbl := z_in (List.mem_of_getElem? (i := 1346) (by decide +kernel))
theorem VX11_held : Jvm.Cond.selects "ShadowWardModel" yX11_held yX11_held ∈ lw_tbl := z_in (List.mem_of_getElem? (i := 1347) (by decide +kernel))
def CX11_word_0 : List zEn := [(0, .aload_n 0, 1, 0, 0), (1, .getfield 7, 4, 0, 126), (4, .iload_n 1, 5, 0, 0), (5, .baload, 6, 0, 0), (6, .i2l, 7, 0, 0), (7, .ldc2_w 195, 10, 0, 0), (10, .land, 11, 0, 0), (11, .aload_n 0, 12, 0, 0), (12, .getfield 7, 15, 0, 126), (15, .iload_n 1, 16, 0, 0), (16, .iconst 1, 17, 1, 0), (17, .iadd, 18, 0, 0), (18, .baload, 19, 0, 0), (19, .i2l, 20, 0, 0), (20, .ldc2_w 195, 23, 0, 0), (23, .land, 24, 0, 0), (24, .bipush 8, 26, 8, 0), (26, .lshl, 27, 0, 0), (27, .lor, 28, 0, 0), (28, .aload_n 0, 29, 0, 0), (29, .getfield 7, 32, 0, 126), (32, .iload_n 1, 33, 0, 0), (33, .iconst 2, 34, 2, 0), (34, .iadd, 35, 0, 0), (35, .baload, 36, 0, 0), (36, .i2l, 37, 0, 0), (37, .ldc2_w 195, 40, 0, 0), (40, .land, 41, 0, 0), (41, .bipush 16, 43, 16, 0), (43, .lshl, 44, 0, 0)]
def CX11_word_1 : List zEn := [(44, .lor, 45, 0, 0), (45, .aload_n 0, 46, 0, 0), (46, .getfield 7, 49, 0, 126), (49, .iload_n 1, 50, 0, 0), (50, .iconst 3, 51, 3, 0), (51, .iadd, 52, 0, 0), (52, .baload, 53, 0, 0), (53, .i2l, 54, 0, 0), (54, .ldc2_w 195, 57, 0, 0), (57, .land, 58, 0, 0), (58, .bipush 24, 60, 24, 0), (60, .lshl, 61, 0, 0), (61, .lor, 62, 0, 0), (62, .lreturn, 63, 0, 0)]
def MX11_word : zMI := (yX11_word, cX11_word, 2, (some .long), [(44, CX11_word_0), (99999, CX11_word_1)], [])
theorem DX11_word_0 : CX11_word_0.all (zchk cX11_word) = true := by decide +kernel
theorem DX11_word_1 : CX11_word_1.all (zchk cX11_word) = true := by decide +kernel
theorem OX11_word : zMOK MX11_word := by
  intro q hq e he
  simp only [MX11_word, zFt, List.mem_cons, List.not_mem_nil, or_false] at hq
  rcases hq with rfl | rfl
  · exact List.all_eq_true.mp DX11_word_0 e he
  · exact List.all_eq_true.mp DX11_word_1 e he
theorem KX11_word : zMK MX11_word := ⟨OX11_word, by decide +kernel, z_in (List.mem_of_getElem? (i := 1368) (by decide +kernel)), z_in (List.mem_of_getElem? (i := 11) (by decide +kernel)), by decide +kernel, by decide +kernel⟩
theorem IX11_word : Jvm.Cond.instanceMethod yX11_word ∈ lw_tbl := z_in (List.mem_of_getElem? (i := 1367) (by decide +kernel))
theorem VX11_word : Jvm.Cond.selects "ShadowWardModel" yX11_word yX11_word ∈ lw_tbl := List.mem_append_left _ (List.mem_of_getElem? (i := 48) (by decide +kernel))
def CX11_leads_0 : List zEn := [(0, .iload_n 1, 1, 0, 0), (1, .istore 4, 3, 0, 0), (3, .iload 4, 5, 0, 0), (5, .iconst 4, 6, 4, 0), (6, .iadd, 7, 0, 0), (7, .iload_n 1, 8, 0, 0), (8, .iload_n 2, 9, 0, 0), (9, .iadd, 10, 0, 0), (10, .if_icmp .gt 52, 13, 0, 62), (13, .aload_n 0, 14, 0, 0), (14, .iload 4, 16, 0, 0), (16, .invokevirtual 197, 19, 0, 266), (19, .lstore 5, 21, 0, 0), (21, .lload 5, 23, 0, 0), (23, .aload_n 0, 24, 0, 0), (24, .getfield 42, 27, 0, 138), (27, .iload_n 3, 28, 0, 0), (28, .iaload, 29, 0, 0), (29, .i2l, 30, 0, 0), (30, .lcmp, 31, 0, 0), (31, .ifCond .lt 25, 34, 0, 56), (34, .lload 5, 36, 0, 0), (36, .aload_n 0, 37, 0, 0), (37, .getfield 42, 40, 0, 138), (40, .iload_n 3, 41, 0, 0), (41, .iaload, 42, 0, 0), (42, .aload_n 0, 43, 0, 0), (43, .getfield 45, 46, 0, 139), (46, .iload_n 3, 47, 0, 0), (47, .iaload, 48, 0, 0)]
def CX11_leads_1 : List zEn := [(48, .iadd, 49, 0, 0), (49, .i2l, 50, 0, 0), (50, .lcmp, 51, 0, 0), (51, .ifCond .ge 5, 54, 0, 56), (54, .iconst 1, 55, 1, 0), (55, .ireturn, 56, 0, 0), (56, .iinc 4 4, 59, 4, 0), (59, .goto (-56), 62, 0, 3), (62, .iconst 0, 63, 0, 0), (63, .ireturn, 64, 0, 0)]
def MX11_leads : zMI := (yX11_leads, cX11_leads, 7, (some .boolean), [(48, CX11_leads_0), (99999, CX11_leads_1)], [])
theorem DX11_leads_0 : CX11_leads_0.all (zchk cX11_leads) = true := by decide +kernel
theorem DX11_leads_1 : CX11_leads_1.all (zchk cX11_leads) = true := by decide +kernel
theorem OX11_leads : zMOK MX11_leads := by
  intro q hq e he
  simp only [MX11_leads, zFt, List.mem_cons, List.not_mem_nil, or_false] at hq
  rcases hq with rfl | rfl
  · exact List.all_eq_true.mp DX11_leads_0 e he
  · exact List.all_eq_true.mp DX11_leads_1 e he
theorem KX11_leads : zMK MX11_leads := ⟨OX11_leads, by decide +kernel, z_in (List.mem_of_getElem? (i := 1364) (by decide +kernel)), z_in (List.mem_of_getElem? (i := 11) (by decide +kernel)), by decide +kernel, by decide +kernel⟩
theorem IX11_leads : Jvm.Cond.instanceMethod yX11_leads ∈ lw_tbl := z_in (List.mem_of_getElem? (i := 1363) (by decide +kernel))
theorem VX11_leads : Jvm.Cond.selects "ShadowWardModel" yX11_leads yX11_leads ∈ lw_tbl := List.mem_append_left _ (List.mem_of_getElem? (i := 47) (by decide +kernel))
def CX11_isRooted_0 : List zEn := [(0, .iconst 0, 1, 0, 0), (1, .istore_n 2, 2, 0, 0), (2, .iload_n 2, 3, 0, 0), (3, .aload_n 0, 4, 0, 0), (4, .getfield 92, 7, 0, 130), (7, .if_icmp .ge 31, 10, 0, 38), (10, .aload_n 0, 11, 0, 0), (11, .aload_n 0, 12, 0, 0), (12, .getfield 17, 15, 0, 128), (15, .iload_n 2, 16, 0, 0), (16, .iaload, 17, 0, 0), (17, .aload_n 0, 18, 0, 0), (18, .getfield 20, 21, 0, 129), (21, .iload_n 2, 22, 0, 0), (22, .iaload, 23, 0, 0), (23, .iload_n 1, 24, 0, 0), (24, .invokevirtual 201, 27, 0, 265), (27, .ifCond .eq 5, 30, 0, 32), (30, .iconst 1, 31, 1, 0), (31, .ireturn, 32, 0, 0), (32, .iinc 2 1, 35, 1, 0), (35, .goto (-33), 38, 0, 2), (38, .iconst 0, 39, 0, 0), (39, .istore_n 2, 40, 0, 0), (40, .iload_n 2, 41, 0, 0), (41, .iconst 4, 42, 4, 0), (42, .aload_n 0, 43, 0, 0), (43, .getfield 102, 46, 0, 137), (46, .imul, 47, 0, 0), (47, .if_icmp .ge 54, 50, 0, 101)]
def CX11_isRooted_1 : List zEn := [(50, .iload_n 2, 51, 0, 0), (51, .iconst 4, 52, 4, 0), (52, .irem, 53, 0, 0), (53, .aload_n 0, 54, 0, 0), (54, .getfield 29, 57, 0, 133), (57, .iload_n 2, 58, 0, 0), (58, .iconst 4, 59, 4, 0), (59, .idiv, 60, 0, 0), (60, .iaload, 61, 0, 0), (61, .if_icmp .ge 34, 64, 0, 95), (64, .aload_n 0, 65, 0, 0), (65, .getfield 38, 68, 0, 136), (68, .iload_n 2, 69, 0, 0), (69, .baload, 70, 0, 0), (70, .ifCond .ne 25, 73, 0, 95), (73, .aload_n 0, 74, 0, 0), (74, .aload_n 0, 75, 0, 0), (75, .getfield 32, 78, 0, 134), (78, .iload_n 2, 79, 0, 0), (79, .iaload, 80, 0, 0), (80, .aload_n 0, 81, 0, 0), (81, .getfield 35, 84, 0, 135), (84, .iload_n 2, 85, 0, 0), (85, .iaload, 86, 0, 0), (86, .iload_n 1, 87, 0, 0), (87, .invokevirtual 201, 90, 0, 265), (90, .ifCond .eq 5, 93, 0, 95), (93, .iconst 1, 94, 1, 0), (94, .ireturn, 95, 0, 0), (95, .iinc 2 1, 98, 1, 0)]
def CX11_isRooted_2 : List zEn := [(98, .goto (-58), 101, 0, 40), (101, .iconst 0, 102, 0, 0), (102, .ireturn, 103, 0, 0)]
def MX11_isRooted : zMI := (yX11_isRooted, cX11_isRooted, 3, (some .boolean), [(50, CX11_isRooted_0), (98, CX11_isRooted_1), (99999, CX11_isRooted_2)], [])
theorem DX11_isRooted_0 : CX11_isRooted_0.all (zchk cX11_isRooted) = true := by decide +kernel
theorem DX11_isRooted_1 : CX11_isRooted_1.all (zchk cX11_isRooted) = true := by decide +kernel
theorem DX11_isRooted_2 : CX11_isRooted_2.all (zchk cX11_isRooted) = true := by decide +kernel
theorem OX11_isRooted : zMOK MX11_isRooted := by
  intro q hq e he
  simp only [MX11_isRooted, zFt, List.mem_cons, List.not_mem_nil, or_false] at hq
  rcases hq with rfl | rfl | rfl
  · exact List.all_eq_true.mp DX11_isRooted_0 e he
  · exact List.all_eq_true.mp DX11_isRooted_1 e he
  · exact List.all_eq_true.mp DX11_isRooted_2 e he
theorem KX11_isRooted : zMK MX11_isRooted := ⟨OX11_isRooted, by decide +kernel, z_in (List.mem_of_getElem? (i := 1360) (by decide +kernel)), z_in (List.mem_of_getElem? (i := 11) (by decide +kernel)), by decide +kernel, by decide +kernel⟩
theorem IX11_isRooted : Jvm.Cond.instanceMethod yX11_isRooted ∈ lw_tbl := z_in (List.mem_of_getElem? (i := 1359) (by decide +kernel))
theorem VX11_isRooted : Jvm.Cond.selects "ShadowWardModel" yX11_isRooted yX11_isRooted ∈ lw_tbl := List.mem_append_left _ (List.mem_of_getElem? (i := 46) (by decide +kernel))
def CX11_walk_0 : List zEn := [(0, .iconst 0, 1, 0, 0), (1, .istore_n 1, 2, 0, 0), (2, .iload_n 1, 3, 0, 0), (3, .aload_n 0, 4, 0, 0), (4, .getfield 117, 7, 0, 146), (7, .if_icmp .ge 37, 10, 0, 44), (10, .aload_n 0, 11, 0, 0), (11, .getfield 72, 14, 0, 151), (14, .iload_n 1, 15, 0, 0), (15, .aload_n 0, 16, 0, 0), (16, .getfield 51, 19, 0, 141), (19, .iload_n 1, 20, 0, 0), (20, .iaload, 21, 0, 0), (21, .ifCond .ne 15, 24, 0, 36), (24, .aload_n 0, 25, 0, 0), (25, .iload_n 1, 26, 0, 0), (26, .invokevirtual 205, 29, 0, 264), (29, .ifCond .eq 7, 32, 0, 36), (32, .iconst 1, 33, 1, 0), (33, .goto 4, 36, 0, 37), (36, .iconst 0, 37, 0, 0), (37, .bastore, 38, 0, 0), (38, .iinc 1 1, 41, 1, 0), (41, .goto (-39), 44, 0, 2), (44, .iconst 1, 45, 1, 0), (45, .istore_n 1, 46, 0, 0), (46, .iload_n 1, 47, 0, 0), (47, .ifCond .eq 119, 50, 0, 166), (50, .iconst 0, 51, 0, 0), (51, .istore_n 1, 52, 0, 0)]
def CX11_walk_1 : List zEn := [(52, .iconst 0, 53, 0, 0), (53, .istore_n 2, 54, 0, 0), (54, .iload_n 2, 55, 0, 0), (55, .aload_n 0, 56, 0, 0), (56, .getfield 117, 59, 0, 146), (59, .if_icmp .ge 104, 62, 0, 163), (62, .aload_n 0, 63, 0, 0), (63, .getfield 51, 66, 0, 141), (66, .iload_n 2, 67, 0, 0), (67, .iaload, 68, 0, 0), (68, .ifCond .ne 89, 71, 0, 157), (71, .aload_n 0, 72, 0, 0), (72, .getfield 72, 75, 0, 151), (75, .iload_n 2, 76, 0, 0), (76, .baload, 77, 0, 0), (77, .ifCond .eq 6, 80, 0, 83), (80, .goto 77, 83, 0, 157), (83, .iconst 0, 84, 0, 0), (84, .istore_n 3, 85, 0, 0), (85, .iload_n 3, 86, 0, 0), (86, .aload_n 0, 87, 0, 0), (87, .getfield 117, 90, 0, 146), (90, .if_icmp .ge 58, 93, 0, 148), (93, .aload_n 0, 94, 0, 0), (94, .getfield 72, 97, 0, 151), (97, .iload_n 2, 98, 0, 0), (98, .baload, 99, 0, 0), (99, .ifCond .ne 49, 102, 0, 148), (102, .aload_n 0, 103, 0, 0), (103, .getfield 72, 106, 0, 151)]
def CX11_walk_2 : List zEn := [(106, .iload_n 2, 107, 0, 0), (107, .aload_n 0, 108, 0, 0), (108, .getfield 72, 111, 0, 151), (111, .iload_n 3, 112, 0, 0), (112, .baload, 113, 0, 0), (113, .ifCond .eq 27, 116, 0, 140), (116, .aload_n 0, 117, 0, 0), (117, .aload_n 0, 118, 0, 0), (118, .getfield 42, 121, 0, 138), (121, .iload_n 3, 122, 0, 0), (122, .iaload, 123, 0, 0), (123, .aload_n 0, 124, 0, 0), (124, .getfield 45, 127, 0, 139), (127, .iload_n 3, 128, 0, 0), (128, .iaload, 129, 0, 0), (129, .iload_n 2, 130, 0, 0), (130, .invokevirtual 201, 133, 0, 265), (133, .ifCond .eq 7, 136, 0, 140), (136, .iconst 1, 137, 1, 0), (137, .goto 4, 140, 0, 141), (140, .iconst 0, 141, 0, 0), (141, .bastore, 142, 0, 0), (142, .iinc 3 1, 145, 1, 0), (145, .goto (-60), 148, 0, 85), (148, .iload_n 1, 149, 0, 0), (149, .aload_n 0, 150, 0, 0), (150, .getfield 72, 153, 0, 151), (153, .iload_n 2, 154, 0, 0), (154, .baload, 155, 0, 0), (155, .ior, 156, 0, 0)]
def CX11_walk_3 : List zEn := [(156, .istore_n 1, 157, 0, 0), (157, .iinc 2 1, 160, 1, 0), (160, .goto (-106), 163, 0, 54), (163, .goto (-117), 166, 0, 46), (166, .return_, 167, 0, 0)]
def MX11_walk : zMI := (yX11_walk, cX11_walk, 4, none, [(52, CX11_walk_0), (106, CX11_walk_1), (156, CX11_walk_2), (99999, CX11_walk_3)], [])
theorem DX11_walk_0 : CX11_walk_0.all (zchk cX11_walk) = true := by decide +kernel
theorem DX11_walk_1 : CX11_walk_1.all (zchk cX11_walk) = true := by decide +kernel
theorem DX11_walk_2 : CX11_walk_2.all (zchk cX11_walk) = true := by decide +kernel
theorem DX11_walk_3 : CX11_walk_3.all (zchk cX11_walk) = true := by decide +kernel
theorem OX11_walk : zMOK MX11_walk := by
  intro q hq e he
  simp only [MX11_walk, zFt, List.mem_cons, List.not_mem_nil, or_false] at hq
  rcases hq with rfl | rfl | rfl | rfl
  · exact List.all_eq_true.mp DX11_walk_0 e he
  · exact List.all_eq_true.mp DX11_walk_1 e he
  · exact List.all_eq_true.mp DX11_walk_2 e he
  · exact List.all_eq_true.mp DX11_walk_3 e he
theorem KX11_walk : zMK MX11_walk := ⟨OX11_walk, by decide +kernel, z_in (List.mem_of_getElem? (i := 1356) (by decide +kernel)), z_in (List.mem_of_getElem? (i := 11) (by decide +kernel)), by decide +kernel, by decide +kernel⟩
theorem IX11_walk : Jvm.Cond.instanceMethod yX11_walk ∈ lw_tbl := z_in (List.mem_of_getElem? (i := 1355) (by decide +kernel))
theorem VX11_walk : Jvm.Cond.selects "ShadowWardModel" yX11_walk yX11_walk ∈ lw_tbl := List.mem_append_left _ (List.mem_of_getElem? (i := 45) (by decide +kernel))
def CX11_isLost_0 : List zEn := [(0, .aload_n 0, 1, 0, 0), (1, .getfield 51, 4, 0, 141), (4, .iload_n 1, 5, 0, 0), (5, .iaload, 6, 0, 0), (6, .ifCond .ne 16, 9, 0, 22), (9, .aload_n 0, 10, 0, 0), (10, .getfield 72, 13, 0, 151), (13, .iload_n 1, 14, 0, 0), (14, .baload, 15, 0, 0), (15, .ifCond .ne 7, 18, 0, 22), (18, .iconst 1, 19, 1, 0), (19, .goto 4, 22, 0, 23), (22, .iconst 0, 23, 0, 0), (23, .ireturn, 24, 0, 0)]
def MX11_isLost : zMI := (yX11_isLost, cX11_isLost, 2, (some .boolean), [(99999, CX11_isLost_0)], [])
theorem DX11_isLost_0 : CX11_isLost_0.all (zchk cX11_isLost) = true := by decide +kernel
theorem OX11_isLost : zMOK MX11_isLost := by
  intro q hq e he
  simp only [MX11_isLost, zFt, List.mem_cons, List.not_mem_nil, or_false] at hq
  rcases hq with rfl
  · exact List.all_eq_true.mp DX11_isLost_0 e he
theorem KX11_isLost : zMK MX11_isLost := ⟨OX11_isLost, by decide +kernel, z_in (List.mem_of_getElem? (i := 1373) (by decide +kernel)), z_in (List.mem_of_getElem? (i := 11) (by decide +kernel)), by decide +kernel, by decide +kernel⟩
theorem IX11_isLost : Jvm.Cond.instanceMethod yX11_isLost ∈ lw_tbl := z_in (List.mem_of_getElem? (i := 1372) (by decide +kernel))
theorem VX11_isLost : Jvm.Cond.selects "ShadowWardModel" yX11_isLost yX11_isLost ∈ lw_tbl := List.mem_append_left _ (List.mem_of_getElem? (i := 49) (by decide +kernel))
def CX11_isAlone_0 : List zEn := [(0, .iconst 0, 1, 0, 0), (1, .istore_n 2, 2, 0, 0), (2, .iload_n 2, 3, 0, 0), (3, .aload_n 0, 4, 0, 0), (4, .getfield 117, 7, 0, 146), (7, .if_icmp .ge 44, 10, 0, 51), (10, .iload_n 2, 11, 0, 0), (11, .iload_n 1, 12, 0, 0), (12, .if_icmp .eq 33, 15, 0, 45), (15, .aload_n 0, 16, 0, 0), (16, .iload_n 2, 17, 0, 0), (17, .invokevirtual 208, 20, 0, 267), (20, .ifCond .eq 25, 23, 0, 45), (23, .aload_n 0, 24, 0, 0), (24, .aload_n 0, 25, 0, 0), (25, .getfield 42, 28, 0, 138), (28, .iload_n 2, 29, 0, 0), (29, .iaload, 30, 0, 0), (30, .aload_n 0, 31, 0, 0), (31, .getfield 45, 34, 0, 139), (34, .iload_n 2, 35, 0, 0), (35, .iaload, 36, 0, 0), (36, .iload_n 1, 37, 0, 0), (37, .invokevirtual 201, 40, 0, 265), (40, .ifCond .eq 5, 43, 0, 45), (43, .iconst 0, 44, 0, 0), (44, .ireturn, 45, 0, 0), (45, .iinc 2 1, 48, 1, 0), (48, .goto (-46), 51, 0, 2), (51, .iconst 1, 52, 1, 0)]
def CX11_isAlone_1 : List zEn := [(52, .ireturn, 53, 0, 0)]
def MX11_isAlone : zMI := (yX11_isAlone, cX11_isAlone, 3, (some .boolean), [(52, CX11_isAlone_0), (99999, CX11_isAlone_1)], [])
theorem DX11_isAlone_0 : CX11_isAlone_0.all (zchk cX11_isAlone) = true := by decide +kernel
theorem DX11_isAlone_1 : CX11_isAlone_1.all (zchk cX11_isAlone) = true := by decide +kernel
theorem OX11_isAlone : zMOK MX11_isAlone := by
  intro q hq e he
  simp only [MX11_isAlone, zFt, List.mem_cons, List.not_mem_nil, or_false] at hq
  rcases hq with rfl | rfl
  · exact List.all_eq_true.mp DX11_isAlone_0 e he
  · exact List.all_eq_true.mp DX11_isAlone_1 e he
theorem KX11_isAlone : zMK MX11_isAlone := ⟨OX11_isAlone, by decide +kernel, z_in (List.mem_of_getElem? (i := 1377) (by decide +kernel)), z_in (List.mem_of_getElem? (i := 11) (by decide +kernel)), by decide +kernel, by decide +kernel⟩
theorem IX11_isAlone : Jvm.Cond.instanceMethod yX11_isAlone ∈ lw_tbl := z_in (List.mem_of_getElem? (i := 1376) (by decide +kernel))
theorem VX11_isAlone : Jvm.Cond.selects "ShadowWardModel" yX11_isAlone yX11_isAlone ∈ lw_tbl := List.mem_append_left _ (List.mem_of_getElem? (i := 50) (by decide +kernel))
def CX11_lost_0 : List zEn := [(0, .aload_n 0, 1, 0, 0), (1, .iconst 0, 2, 0, 0), (2, .putfield 85, 5, 0, 123), (5, .aload_n 0, 6, 0, 0), (6, .invokevirtual 211, 9, 0, 263), (9, .iload_n 1, 10, 0, 0), (10, .ifCond .ge 7, 13, 0, 17), (13, .iconst 0, 14, 0, 0), (14, .goto 4, 17, 0, 18), (17, .iload_n 1, 18, 0, 0), (18, .istore_n 3, 19, 0, 0), (19, .iload_n 3, 20, 0, 0), (20, .aload_n 0, 21, 0, 0), (21, .getfield 117, 24, 0, 146), (24, .if_icmp .ge 31, 27, 0, 55), (27, .aload_n 0, 28, 0, 0), (28, .iload_n 3, 29, 0, 0), (29, .invokevirtual 208, 32, 0, 267), (32, .ifCond .eq 17, 35, 0, 49), (35, .iload_n 2, 36, 0, 0), (36, .ifCond .eq 11, 39, 0, 47), (39, .aload_n 0, 40, 0, 0), (40, .iload_n 3, 41, 0, 0), (41, .invokevirtual 214, 44, 0, 268), (44, .ifCond .eq 5, 47, 0, 49), (47, .iload_n 3, 48, 0, 0), (48, .ireturn, 49, 0, 0), (49, .iinc 3 1, 52, 1, 0), (52, .goto (-33), 55, 0, 19), (55, .iconst (-1), 56, (-1), 0)]
def CX11_lost_1 : List zEn := [(56, .ireturn, 57, 0, 0)]
def MX11_lost : zMI := (yX11_lost, cX11_lost, 4, (some .int), [(56, CX11_lost_0), (99999, CX11_lost_1)], [])
theorem DX11_lost_0 : CX11_lost_0.all (zchk cX11_lost) = true := by decide +kernel
theorem DX11_lost_1 : CX11_lost_1.all (zchk cX11_lost) = true := by decide +kernel
theorem OX11_lost : zMOK MX11_lost := by
  intro q hq e he
  simp only [MX11_lost, zFt, List.mem_cons, List.not_mem_nil, or_false] at hq
  rcases hq with rfl | rfl
  · exact List.all_eq_true.mp DX11_lost_0 e he
  · exact List.all_eq_true.mp DX11_lost_1 e he
theorem KX11_lost : zMK MX11_lost := ⟨OX11_lost, by decide +kernel, z_in (List.mem_of_getElem? (i := 1352) (by decide +kernel)), z_in (List.mem_of_getElem? (i := 11) (by decide +kernel)), by decide +kernel, by decide +kernel⟩
theorem IX11_lost : Jvm.Cond.instanceMethod yX11_lost ∈ lw_tbl := z_in (List.mem_of_getElem? (i := 1350) (by decide +kernel))
theorem VX11_lost : Jvm.Cond.selects "ShadowWardModel" yX11_lost yX11_lost ∈ lw_tbl := z_in (List.mem_of_getElem? (i := 1351) (by decide +kernel))
def CX11_told_0 : List zEn := [(0, .aload_n 0, 1, 0, 0), (1, .iload_n 1, 2, 0, 0), (2, .ifCond .lt 9, 5, 0, 11), (5, .iload_n 1, 6, 0, 0), (6, .bipush 11, 8, 11, 0), (8, .if_icmp .le 7, 11, 0, 15), (11, .iconst 1, 12, 1, 0), (12, .goto 4, 15, 0, 16), (15, .iconst 0, 16, 0, 0), (16, .invokevirtual 88, 19, 0, 216), (19, .ifCond .eq 5, 22, 0, 24), (22, .iconst 0, 23, 0, 0), (23, .ireturn, 24, 0, 0), (24, .iconst 0, 25, 0, 0), (25, .istore_n 2, 26, 0, 0), (26, .iconst 0, 27, 0, 0), (27, .istore_n 3, 28, 0, 0), (28, .iconst 0, 29, 0, 0), (29, .istore 4, 31, 0, 0), (31, .iload 4, 33, 0, 0), (33, .aload_n 0, 34, 0, 0), (34, .getfield 117, 37, 0, 146), (37, .if_icmp .ge 51, 40, 0, 88), (40, .iload_n 2, 41, 0, 0), (41, .aload_n 0, 42, 0, 0), (42, .getfield 51, 45, 0, 141), (45, .iload 4, 47, 0, 0), (47, .iaload, 48, 0, 0), (48, .ifCond .ne 7, 51, 0, 55), (51, .iconst 1, 52, 1, 0)]
def CX11_told_1 : List zEn := [(52, .goto 4, 55, 0, 56), (55, .iconst 0, 56, 0, 0), (56, .iadd, 57, 0, 0), (57, .istore_n 2, 58, 0, 0), (58, .iload_n 3, 59, 0, 0), (59, .aload_n 0, 60, 0, 0), (60, .getfield 51, 63, 0, 141), (63, .iload 4, 65, 0, 0), (65, .iaload, 66, 0, 0), (66, .ifCond .ne 13, 69, 0, 79), (69, .aload_n 0, 70, 0, 0), (70, .getfield 57, 73, 0, 143), (73, .iload 4, 75, 0, 0), (75, .iaload, 76, 0, 0), (76, .goto 4, 79, 0, 80), (79, .iconst 0, 80, 0, 0), (80, .iadd, 81, 0, 0), (81, .istore_n 3, 82, 0, 0), (82, .iinc 4 1, 85, 1, 0), (85, .goto (-54), 88, 0, 31), (88, .iload_n 1, 89, 0, 0), (89, .tableswitch 108 0 10 #[59, 64, 69, 74, 79, 84, 86, 91, 96, 101, 103], 148, 0, 0), (148, .aload_n 0, 149, 0, 0), (149, .getfield 78, 152, 0, 124), (152, .ireturn, 153, 0, 0), (153, .aload_n 0, 154, 0, 0), (154, .getfield 82, 157, 0, 125), (157, .ireturn, 158, 0, 0), (158, .aload_n 0, 159, 0, 0), (159, .getfield 92, 162, 0, 130)]
def CX11_told_2 : List zEn := [(162, .ireturn, 163, 0, 0), (163, .aload_n 0, 164, 0, 0), (164, .getfield 102, 167, 0, 137), (167, .ireturn, 168, 0, 0), (168, .aload_n 0, 169, 0, 0), (169, .getfield 117, 172, 0, 146), (172, .ireturn, 173, 0, 0), (173, .iload_n 2, 174, 0, 0), (174, .ireturn, 175, 0, 0), (175, .aload_n 0, 176, 0, 0), (176, .getfield 157, 179, 0, 150), (179, .ireturn, 180, 0, 0), (180, .aload_n 0, 181, 0, 0), (181, .getfield 123, 184, 0, 148), (184, .ireturn, 185, 0, 0), (185, .aload_n 0, 186, 0, 0), (186, .invokevirtual 139, 189, 0, 240), (189, .ireturn, 190, 0, 0), (190, .iload_n 3, 191, 0, 0), (191, .ireturn, 192, 0, 0), (192, .aload_n 0, 193, 0, 0), (193, .invokevirtual 217, 196, 0, 270), (196, .ireturn, 197, 0, 0), (197, .aload_n 0, 198, 0, 0), (198, .invokevirtual 211, 201, 0, 263), (201, .iconst 0, 202, 0, 0), (202, .istore 4, 204, 0, 0), (204, .iconst 0, 205, 0, 0), (205, .istore 5, 207, 0, 0), (207, .iload 5, 209, 0, 0)]
def CX11_told_3 : List zEn := [(209, .aload_n 0, 210, 0, 0), (210, .getfield 117, 213, 0, 146), (213, .if_icmp .ge 28, 216, 0, 241), (216, .iload 4, 218, 0, 0), (218, .aload_n 0, 219, 0, 0), (219, .iload 5, 221, 0, 0), (221, .invokevirtual 208, 224, 0, 267), (224, .ifCond .eq 7, 227, 0, 231), (227, .iconst 1, 228, 1, 0), (228, .goto 4, 231, 0, 232), (231, .iconst 0, 232, 0, 0), (232, .iadd, 233, 0, 0), (233, .istore 4, 235, 0, 0), (235, .iinc 5 1, 238, 1, 0), (238, .goto (-31), 241, 0, 207), (241, .iload 4, 243, 0, 0), (243, .ireturn, 244, 0, 0)]
def MX11_told : zMI := (yX11_told, cX11_told, 6, (some .int), [(52, CX11_told_0), (162, CX11_told_1), (209, CX11_told_2), (99999, CX11_told_3)], [])
theorem DX11_told_0 : CX11_told_0.all (zchk cX11_told) = true := by decide +kernel
theorem DX11_told_1 : CX11_told_1.all (zchk cX11_told) = true := by decide +kernel
theorem DX11_told_2 : CX11_told_2.all (zchk cX11_told) = true := by decide +kernel
theorem DX11_told_3 : CX11_told_3.all (zchk cX11_told) = true := by decide +kernel
theorem OX11_told : zMOK MX11_told := by
  intro q hq e he
  simp only [MX11_told, zFt, List.mem_cons, List.not_mem_nil, or_false] at hq
  rcases hq with rfl | rfl | rfl | rfl
  · exact List.all_eq_true.mp DX11_told_0 e he
  · exact List.all_eq_true.mp DX11_told_1 e he
  · exact List.all_eq_true.mp DX11_told_2 e he
  · exact List.all_eq_true.mp DX11_told_3 e he
theorem KX11_told : zMK MX11_told := ⟨OX11_told, by decide +kernel, z_in (List.mem_of_getElem? (i := 1381) (by decide +kernel)), z_in (List.mem_of_getElem? (i := 11) (by decide +kernel)), by decide +kernel, by decide +kernel⟩
theorem IX11_told : Jvm.Cond.instanceMethod yX11_told ∈ lw_tbl := z_in (List.mem_of_getElem? (i := 1379) (by decide +kernel))
theorem VX11_told : Jvm.Cond.selects "ShadowWardModel" yX11_told yX11_told ∈ lw_tbl := z_in (List.mem_of_getElem? (i := 1380) (by decide +kernel))
def CX11_good_0 : List zEn := [(0, .iconst 0, 1, 0, 0), (1, .istore_n 1, 2, 0, 0), (2, .iconst 0, 3, 0, 0), (3, .istore_n 2, 4, 0, 0), (4, .iload_n 2, 5, 0, 0), (5, .aload_n 0, 6, 0, 0), (6, .getfield 78, 9, 0, 124), (9, .if_icmp .ge 26, 12, 0, 35), (12, .iload_n 1, 13, 0, 0), (13, .aload_n 0, 14, 0, 0), (14, .iload_n 2, 15, 0, 0), (15, .i2l, 16, 0, 0), (16, .invokevirtual 173, 19, 0, 244), (19, .ifCond .ne 7, 22, 0, 26), (22, .iconst 1, 23, 1, 0), (23, .goto 4, 26, 0, 27), (26, .iconst 0, 27, 0, 0), (27, .iadd, 28, 0, 0), (28, .istore_n 1, 29, 0, 0), (29, .iinc 2 1, 32, 1, 0), (32, .goto (-28), 35, 0, 4), (35, .iload_n 1, 36, 0, 0), (36, .ireturn, 37, 0, 0)]
def MX11_good : zMI := (yX11_good, cX11_good, 3, (some .int), [(99999, CX11_good_0)], [])
theorem DX11_good_0 : CX11_good_0.all (zchk cX11_good) = true := by decide +kernel
theorem OX11_good : zMOK MX11_good := by
  intro q hq e he
  simp only [MX11_good, zFt, List.mem_cons, List.not_mem_nil, or_false] at hq
  rcases hq with rfl
  · exact List.all_eq_true.mp DX11_good_0 e he
theorem KX11_good : zMK MX11_good := ⟨OX11_good, by decide +kernel, z_in (List.mem_of_getElem? (i := 1385) (by decide +kernel)), z_in (List.mem_of_getElem? (i := 11) (by decide +kernel)), by decide +kernel, by decide +kernel⟩
theorem IX11_good : Jvm.Cond.instanceMethod yX11_good ∈ lw_tbl := z_in (List.mem_of_getElem? (i := 1384) (by decide +kernel))
theorem VX11_good : Jvm.Cond.selects "ShadowWardModel" yX11_good yX11_good ∈ lw_tbl := List.mem_append_left _ (List.mem_of_getElem? (i := 51) (by decide +kernel))
