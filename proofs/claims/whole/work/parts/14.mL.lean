def CL_cell_0 : List zEn := [(0, .iload_n 1, 1, 0, 0), (1, .aload_n 0, 2, 0, 0), (2, .arraylength, 3, 0, 0), (3, .if_icmp .ge 9, 6, 0, 12), (6, .aload_n 0, 7, 0, 0), (7, .iload_n 1, 8, 0, 0), (8, .iaload, 9, 0, 0), (9, .goto 4, 12, 0, 13), (12, .iconst 0, 13, 0, 0), (13, .ireturn, 14, 0, 0)]
def ML_cell : zMI := (yL_cell, cL_cell, 2, (some .int), [(99999, CL_cell_0)], [])
theorem DL_cell_0 : CL_cell_0.all (zchk cL_cell) = true := by decide +kernel
theorem OL_cell : zMOK ML_cell := by
  intro q hq e he
  simp only [ML_cell, zFt, List.mem_cons, List.not_mem_nil, or_false] at hq
  rcases hq with rfl
  · exact List.all_eq_true.mp DL_cell_0 e he
theorem KL_cell : zMK ML_cell := ⟨OL_cell, by decide +kernel, z_in (List.mem_of_getElem? (i := 591) (by decide +kernel)), z_in (List.mem_of_getElem? (i := 0) (by decide +kernel)), by decide +kernel, by decide +kernel⟩
theorem SL_cell : Jvm.Cond.static yL_cell ∈ lw_tbl := z_in (List.mem_of_getElem? (i := 590) (by decide +kernel))
def CL_global_0 : List zEn := [(0, .aload_n 2, 1, 0, 0), (1, .iconst 0, 2, 0, 0), (2, .aload_n 0, 3, 0, 0), (3, .iload_n 1, 4, 0, 0), (4, .invokevirtual 7, 7, 0, 104), (7, .i2l, 8, 0, 0), (8, .lastore, 9, 0, 0), (9, .goto 6, 12, 0, 15), (12, .astore_n 3, 13, 0, 0), (13, .iconst 1, 14, 1, 0), (14, .ireturn, 15, 0, 0), (15, .iconst 0, 16, 0, 0), (16, .ireturn, 17, 0, 0)]
def ML_global : zMI := (yL_global, cL_global, 4, (some .int), [(99999, CL_global_0)], [(0, 9, 12, 13)])
theorem DL_global_0 : CL_global_0.all (zchk cL_global) = true := by decide +kernel
theorem OL_global : zMOK ML_global := by
  intro q hq e he
  simp only [ML_global, zFt, List.mem_cons, List.not_mem_nil, or_false] at hq
  rcases hq with rfl
  · exact List.all_eq_true.mp DL_global_0 e he
theorem KL_global : zMK ML_global := ⟨OL_global, by decide +kernel, z_in (List.mem_of_getElem? (i := 594) (by decide +kernel)), z_in (List.mem_of_getElem? (i := 0) (by decide +kernel)), by decide +kernel, by decide +kernel⟩
theorem SL_global : Jvm.Cond.static yL_global ∈ lw_tbl := z_in (List.mem_of_getElem? (i := 593) (by decide +kernel))
def CL_enter_0 : List zEn := [(0, .aload 5, 2, 0, 0), (2, .iconst 0, 3, 0, 0), (3, .aload_n 0, 4, 0, 0), (4, .iload_n 1, 5, 0, 0), (5, .iload_n 2, 6, 0, 0), (6, .iload_n 3, 7, 0, 0), (7, .iload 4, 9, 0, 0), (9, .invokevirtual 15, 12, 0, 112), (12, .i2l, 13, 0, 0), (13, .lastore, 14, 0, 0), (14, .goto 7, 17, 0, 21), (17, .astore 6, 19, 0, 0), (19, .iconst 1, 20, 1, 0), (20, .ireturn, 21, 0, 0), (21, .iconst 0, 22, 0, 0), (22, .ireturn, 23, 0, 0)]
def ML_enter : zMI := (yL_enter, cL_enter, 7, (some .int), [(99999, CL_enter_0)], [(0, 14, 17, 13)])
theorem DL_enter_0 : CL_enter_0.all (zchk cL_enter) = true := by decide +kernel
theorem OL_enter : zMOK ML_enter := by
  intro q hq e he
  simp only [ML_enter, zFt, List.mem_cons, List.not_mem_nil, or_false] at hq
  rcases hq with rfl
  · exact List.all_eq_true.mp DL_enter_0 e he
theorem KL_enter : zMK ML_enter := ⟨OL_enter, by decide +kernel, z_in (List.mem_of_getElem? (i := 673) (by decide +kernel)), z_in (List.mem_of_getElem? (i := 0) (by decide +kernel)), by decide +kernel, by decide +kernel⟩
theorem SL_enter : Jvm.Cond.static yL_enter ∈ lw_tbl := z_in (List.mem_of_getElem? (i := 672) (by decide +kernel))
def CL_leave_0 : List zEn := [(0, .aload_n 1, 1, 0, 0), (1, .iconst 0, 2, 0, 0), (2, .aload_n 0, 3, 0, 0), (3, .invokevirtual 19, 6, 0, 127), (6, .i2l, 7, 0, 0), (7, .lastore, 8, 0, 0), (8, .goto 6, 11, 0, 14), (11, .astore_n 2, 12, 0, 0), (12, .iconst 1, 13, 1, 0), (13, .ireturn, 14, 0, 0), (14, .iconst 0, 15, 0, 0), (15, .ireturn, 16, 0, 0)]
def ML_leave : zMI := (yL_leave, cL_leave, 3, (some .int), [(99999, CL_leave_0)], [(0, 8, 11, 23)])
theorem DL_leave_0 : CL_leave_0.all (zchk cL_leave) = true := by decide +kernel
theorem OL_leave : zMOK ML_leave := by
  intro q hq e he
  simp only [ML_leave, zFt, List.mem_cons, List.not_mem_nil, or_false] at hq
  rcases hq with rfl
  · exact List.all_eq_true.mp DL_leave_0 e he
theorem KL_leave : zMK ML_leave := ⟨OL_leave, by decide +kernel, z_in (List.mem_of_getElem? (i := 743) (by decide +kernel)), z_in (List.mem_of_getElem? (i := 0) (by decide +kernel)), by decide +kernel, by decide +kernel⟩
theorem SL_leave : Jvm.Cond.static yL_leave ∈ lw_tbl := z_in (List.mem_of_getElem? (i := 742) (by decide +kernel))
def CL_scope_0 : List zEn := [(0, .aload 4, 2, 0, 0), (2, .iconst 0, 3, 0, 0), (3, .aload_n 0, 4, 0, 0), (4, .iload_n 1, 5, 0, 0), (5, .iload_n 2, 6, 0, 0), (6, .iload_n 3, 7, 0, 0), (7, .invokevirtual 25, 10, 0, 136), (10, .ifCond .eq 7, 13, 0, 17), (13, .lconst 1, 14, 0, 0), (14, .goto 4, 17, 0, 18), (17, .lconst 0, 18, 0, 0), (18, .lastore, 19, 0, 0), (19, .goto 7, 22, 0, 26), (22, .astore 5, 24, 0, 0), (24, .iconst 1, 25, 1, 0), (25, .ireturn, 26, 0, 0), (26, .iconst 0, 27, 0, 0), (27, .ireturn, 28, 0, 0)]
def ML_scope : zMI := (yL_scope, cL_scope, 6, (some .int), [(99999, CL_scope_0)], [(0, 19, 22, 29)])
theorem DL_scope_0 : CL_scope_0.all (zchk cL_scope) = true := by decide +kernel
theorem OL_scope : zMOK ML_scope := by
  intro q hq e he
  simp only [ML_scope, zFt, List.mem_cons, List.not_mem_nil, or_false] at hq
  rcases hq with rfl
  · exact List.all_eq_true.mp DL_scope_0 e he
theorem KL_scope : zMK ML_scope := ⟨OL_scope, by decide +kernel, z_in (List.mem_of_getElem? (i := 781) (by decide +kernel)), z_in (List.mem_of_getElem? (i := 0) (by decide +kernel)), by decide +kernel, by decide +kernel⟩
theorem SL_scope : Jvm.Cond.static yL_scope ∈ lw_tbl := z_in (List.mem_of_getElem? (i := 780) (by decide +kernel))
def CL_variable_0 : List zEn := [(0, .aload_n 3, 1, 0, 0), (1, .iconst 0, 2, 0, 0), (2, .aload_n 0, 3, 0, 0), (3, .iload_n 1, 4, 0, 0), (4, .iload_n 2, 5, 0, 0), (5, .invokevirtual 31, 8, 0, 144), (8, .i2l, 9, 0, 0), (9, .lastore, 10, 0, 0), (10, .goto 7, 13, 0, 17), (13, .astore 4, 15, 0, 0), (15, .iconst 1, 16, 1, 0), (16, .ireturn, 17, 0, 0), (17, .iconst 0, 18, 0, 0), (18, .ireturn, 19, 0, 0)]
def ML_variable : zMI := (yL_variable, cL_variable, 5, (some .int), [(99999, CL_variable_0)], [(0, 10, 13, 29)])
theorem DL_variable_0 : CL_variable_0.all (zchk cL_variable) = true := by decide +kernel
theorem OL_variable : zMOK ML_variable := by
  intro q hq e he
  simp only [ML_variable, zFt, List.mem_cons, List.not_mem_nil, or_false] at hq
  rcases hq with rfl
  · exact List.all_eq_true.mp DL_variable_0 e he
theorem KL_variable : zMK ML_variable := ⟨OL_variable, by decide +kernel, z_in (List.mem_of_getElem? (i := 819) (by decide +kernel)), z_in (List.mem_of_getElem? (i := 0) (by decide +kernel)), by decide +kernel, by decide +kernel⟩
theorem SL_variable : Jvm.Cond.static yL_variable ∈ lw_tbl := z_in (List.mem_of_getElem? (i := 818) (by decide +kernel))
def CL_allocate_0 : List zEn := [(0, .aload 4, 2, 0, 0), (2, .iconst 0, 3, 0, 0), (3, .aload_n 0, 4, 0, 0), (4, .iload_n 1, 5, 0, 0), (5, .iload_n 2, 6, 0, 0), (6, .iload_n 3, 7, 0, 0), (7, .invokevirtual 35, 10, 0, 146), (10, .i2l, 11, 0, 0), (11, .lastore, 12, 0, 0), (12, .goto 7, 15, 0, 19), (15, .astore 5, 17, 0, 0), (17, .iconst 1, 18, 1, 0), (18, .ireturn, 19, 0, 0), (19, .iconst 0, 20, 0, 0), (20, .ireturn, 21, 0, 0)]
def ML_allocate : zMI := (yL_allocate, cL_allocate, 6, (some .int), [(99999, CL_allocate_0)], [(0, 12, 15, 13)])
theorem DL_allocate_0 : CL_allocate_0.all (zchk cL_allocate) = true := by decide +kernel
theorem OL_allocate : zMOK ML_allocate := by
  intro q hq e he
  simp only [ML_allocate, zFt, List.mem_cons, List.not_mem_nil, or_false] at hq
  rcases hq with rfl
  · exact List.all_eq_true.mp DL_allocate_0 e he
theorem KL_allocate : zMK ML_allocate := ⟨OL_allocate, by decide +kernel, z_in (List.mem_of_getElem? (i := 826) (by decide +kernel)), z_in (List.mem_of_getElem? (i := 0) (by decide +kernel)), by decide +kernel, by decide +kernel⟩
theorem SL_allocate : Jvm.Cond.static yL_allocate ∈ lw_tbl := z_in (List.mem_of_getElem? (i := 825) (by decide +kernel))
def CL_free_0 : List zEn := [(0, .aload 4, 2, 0, 0), (2, .iconst 0, 3, 0, 0), (3, .aload_n 0, 4, 0, 0), (4, .iload_n 1, 5, 0, 0), (5, .iload_n 2, 6, 0, 0), (6, .iload_n 3, 7, 0, 0), (7, .invokevirtual 39, 10, 0, 167), (10, .ifCond .eq 7, 13, 0, 17), (13, .lconst 1, 14, 0, 0), (14, .goto 4, 17, 0, 18), (17, .lconst 0, 18, 0, 0), (18, .lastore, 19, 0, 0), (19, .goto 7, 22, 0, 26), (22, .astore 5, 24, 0, 0), (24, .iconst 1, 25, 1, 0), (25, .ireturn, 26, 0, 0), (26, .iconst 0, 27, 0, 0), (27, .ireturn, 28, 0, 0)]
def ML_free : zMI := (yL_free, cL_free, 6, (some .int), [(99999, CL_free_0)], [(0, 19, 22, 13)])
theorem DL_free_0 : CL_free_0.all (zchk cL_free) = true := by decide +kernel
theorem OL_free : zMOK ML_free := by
  intro q hq e he
  simp only [ML_free, zFt, List.mem_cons, List.not_mem_nil, or_false] at hq
  rcases hq with rfl
  · exact List.all_eq_true.mp DL_free_0 e he
theorem KL_free : zMK ML_free := ⟨OL_free, by decide +kernel, z_in (List.mem_of_getElem? (i := 915) (by decide +kernel)), z_in (List.mem_of_getElem? (i := 0) (by decide +kernel)), by decide +kernel, by decide +kernel⟩
theorem SL_free : Jvm.Cond.static yL_free ∈ lw_tbl := z_in (List.mem_of_getElem? (i := 914) (by decide +kernel))
def CL_resize_0 : List zEn := [(0, .aload 4, 2, 0, 0), (2, .iconst 0, 3, 0, 0), (3, .aload_n 0, 4, 0, 0), (4, .iload_n 1, 5, 0, 0), (5, .iload_n 2, 6, 0, 0), (6, .iload_n 3, 7, 0, 0), (7, .invokevirtual 43, 10, 0, 172), (10, .i2l, 11, 0, 0), (11, .lastore, 12, 0, 0), (12, .goto 7, 15, 0, 19), (15, .astore 5, 17, 0, 0), (17, .iconst 1, 18, 1, 0), (18, .ireturn, 19, 0, 0), (19, .iconst 0, 20, 0, 0), (20, .ireturn, 21, 0, 0)]
def ML_resize : zMI := (yL_resize, cL_resize, 6, (some .int), [(99999, CL_resize_0)], [(0, 12, 15, 13)])
theorem DL_resize_0 : CL_resize_0.all (zchk cL_resize) = true := by decide +kernel
theorem OL_resize : zMOK ML_resize := by
  intro q hq e he
  simp only [ML_resize, zFt, List.mem_cons, List.not_mem_nil, or_false] at hq
  rcases hq with rfl
  · exact List.all_eq_true.mp DL_resize_0 e he
theorem KL_resize : zMK ML_resize := ⟨OL_resize, by decide +kernel, z_in (List.mem_of_getElem? (i := 934) (by decide +kernel)), z_in (List.mem_of_getElem? (i := 0) (by decide +kernel)), by decide +kernel, by decide +kernel⟩
theorem SL_resize : Jvm.Cond.static yL_resize ∈ lw_tbl := z_in (List.mem_of_getElem? (i := 933) (by decide +kernel))
def CL_load_0 : List zEn := [(0, .aload_n 3, 1, 0, 0), (1, .iconst 0, 2, 0, 0), (2, .aload_n 0, 3, 0, 0), (3, .iload_n 1, 4, 0, 0), (4, .iload_n 2, 5, 0, 0), (5, .invokevirtual 46, 8, 0, 176), (8, .lastore, 9, 0, 0), (9, .goto 7, 12, 0, 16), (12, .astore 4, 14, 0, 0), (14, .iconst 1, 15, 1, 0), (15, .ireturn, 16, 0, 0), (16, .iconst 0, 17, 0, 0), (17, .ireturn, 18, 0, 0)]
def ML_load : zMI := (yL_load, cL_load, 5, (some .int), [(99999, CL_load_0)], [(0, 9, 12, 13)])
theorem DL_load_0 : CL_load_0.all (zchk cL_load) = true := by decide +kernel
theorem OL_load : zMOK ML_load := by
  intro q hq e he
  simp only [ML_load, zFt, List.mem_cons, List.not_mem_nil, or_false] at hq
  rcases hq with rfl
  · exact List.all_eq_true.mp DL_load_0 e he
theorem KL_load : zMK ML_load := ⟨OL_load, by decide +kernel, z_in (List.mem_of_getElem? (i := 943) (by decide +kernel)), z_in (List.mem_of_getElem? (i := 0) (by decide +kernel)), by decide +kernel, by decide +kernel⟩
theorem SL_load : Jvm.Cond.static yL_load ∈ lw_tbl := z_in (List.mem_of_getElem? (i := 942) (by decide +kernel))
def CL_store_0 : List zEn := [(0, .aload 5, 2, 0, 0), (2, .iconst 0, 3, 0, 0), (3, .aload_n 0, 4, 0, 0), (4, .iload_n 1, 5, 0, 0), (5, .iload_n 2, 6, 0, 0), (6, .lload_n 3, 7, 0, 0), (7, .invokevirtual 50, 10, 0, 179), (10, .ifCond .eq 7, 13, 0, 17), (13, .lconst 1, 14, 0, 0), (14, .goto 4, 17, 0, 18), (17, .lconst 0, 18, 0, 0), (18, .lastore, 19, 0, 0), (19, .goto 7, 22, 0, 26), (22, .astore 6, 24, 0, 0), (24, .iconst 1, 25, 1, 0), (25, .ireturn, 26, 0, 0), (26, .iconst 0, 27, 0, 0), (27, .ireturn, 28, 0, 0)]
def ML_store : zMI := (yL_store, cL_store, 7, (some .int), [(99999, CL_store_0)], [(0, 19, 22, 13)])
theorem DL_store_0 : CL_store_0.all (zchk cL_store) = true := by decide +kernel
theorem OL_store : zMOK ML_store := by
  intro q hq e he
  simp only [ML_store, zFt, List.mem_cons, List.not_mem_nil, or_false] at hq
  rcases hq with rfl
  · exact List.all_eq_true.mp DL_store_0 e he
theorem KL_store : zMK ML_store := ⟨OL_store, by decide +kernel, z_in (List.mem_of_getElem? (i := 951) (by decide +kernel)), z_in (List.mem_of_getElem? (i := 0) (by decide +kernel)), by decide +kernel, by decide +kernel⟩
theorem SL_store : Jvm.Cond.static yL_store ∈ lw_tbl := z_in (List.mem_of_getElem? (i := 950) (by decide +kernel))
def CL_fill_0 : List zEn := [(0, .aload 4, 2, 0, 0), (2, .iconst 0, 3, 0, 0), (3, .aload_n 0, 4, 0, 0), (4, .iload_n 1, 5, 0, 0), (5, .iload_n 2, 6, 0, 0), (6, .iload_n 3, 7, 0, 0), (7, .invokevirtual 54, 10, 0, 182), (10, .ifCond .eq 7, 13, 0, 17), (13, .lconst 1, 14, 0, 0), (14, .goto 4, 17, 0, 18), (17, .lconst 0, 18, 0, 0), (18, .lastore, 19, 0, 0), (19, .goto 7, 22, 0, 26), (22, .astore 5, 24, 0, 0), (24, .iconst 1, 25, 1, 0), (25, .ireturn, 26, 0, 0), (26, .iconst 0, 27, 0, 0), (27, .ireturn, 28, 0, 0)]
def ML_fill : zMI := (yL_fill, cL_fill, 6, (some .int), [(99999, CL_fill_0)], [(0, 19, 22, 13)])
theorem DL_fill_0 : CL_fill_0.all (zchk cL_fill) = true := by decide +kernel
theorem OL_fill : zMOK ML_fill := by
  intro q hq e he
  simp only [ML_fill, zFt, List.mem_cons, List.not_mem_nil, or_false] at hq
  rcases hq with rfl
  · exact List.all_eq_true.mp DL_fill_0 e he
theorem KL_fill : zMK ML_fill := ⟨OL_fill, by decide +kernel, z_in (List.mem_of_getElem? (i := 962) (by decide +kernel)), z_in (List.mem_of_getElem? (i := 0) (by decide +kernel)), by decide +kernel, by decide +kernel⟩
theorem SL_fill : Jvm.Cond.static yL_fill ∈ lw_tbl := z_in (List.mem_of_getElem? (i := 961) (by decide +kernel))
def CL_copy_0 : List zEn := [(0, .aload 5, 2, 0, 0), (2, .iconst 0, 3, 0, 0), (3, .aload_n 0, 4, 0, 0), (4, .iload_n 1, 5, 0, 0), (5, .iload_n 2, 6, 0, 0), (6, .iload_n 3, 7, 0, 0), (7, .iload 4, 9, 0, 0), (9, .invokevirtual 57, 12, 0, 185), (12, .ifCond .eq 7, 15, 0, 19), (15, .lconst 1, 16, 0, 0), (16, .goto 4, 19, 0, 20), (19, .lconst 0, 20, 0, 0), (20, .lastore, 21, 0, 0), (21, .goto 7, 24, 0, 28), (24, .astore 6, 26, 0, 0), (26, .iconst 1, 27, 1, 0), (27, .ireturn, 28, 0, 0), (28, .iconst 0, 29, 0, 0), (29, .ireturn, 30, 0, 0)]
def ML_copy : zMI := (yL_copy, cL_copy, 7, (some .int), [(99999, CL_copy_0)], [(0, 21, 24, 13)])
theorem DL_copy_0 : CL_copy_0.all (zchk cL_copy) = true := by decide +kernel
theorem OL_copy : zMOK ML_copy := by
  intro q hq e he
  simp only [ML_copy, zFt, List.mem_cons, List.not_mem_nil, or_false] at hq
  rcases hq with rfl
  · exact List.all_eq_true.mp DL_copy_0 e he
theorem KL_copy : zMK ML_copy := ⟨OL_copy, by decide +kernel, z_in (List.mem_of_getElem? (i := 970) (by decide +kernel)), z_in (List.mem_of_getElem? (i := 0) (by decide +kernel)), by decide +kernel, by decide +kernel⟩
theorem SL_copy : Jvm.Cond.static yL_copy ∈ lw_tbl := z_in (List.mem_of_getElem? (i := 969) (by decide +kernel))
def CL_compare_0 : List zEn := [(0, .aload 4, 2, 0, 0), (2, .iconst 0, 3, 0, 0), (3, .aload_n 0, 4, 0, 0), (4, .iload_n 1, 5, 0, 0), (5, .iload_n 2, 6, 0, 0), (6, .iload_n 3, 7, 0, 0), (7, .invokevirtual 61, 10, 0, 187), (10, .i2l, 11, 0, 0), (11, .lastore, 12, 0, 0), (12, .goto 7, 15, 0, 19), (15, .astore 5, 17, 0, 0), (17, .iconst 1, 18, 1, 0), (18, .ireturn, 19, 0, 0), (19, .iconst 0, 20, 0, 0), (20, .ireturn, 21, 0, 0)]
def ML_compare : zMI := (yL_compare, cL_compare, 6, (some .int), [(99999, CL_compare_0)], [(0, 12, 15, 13)])
theorem DL_compare_0 : CL_compare_0.all (zchk cL_compare) = true := by decide +kernel
theorem OL_compare : zMOK ML_compare := by
  intro q hq e he
  simp only [ML_compare, zFt, List.mem_cons, List.not_mem_nil, or_false] at hq
  rcases hq with rfl
  · exact List.all_eq_true.mp DL_compare_0 e he
theorem KL_compare : zMK ML_compare := ⟨OL_compare, by decide +kernel, z_in (List.mem_of_getElem? (i := 974) (by decide +kernel)), z_in (List.mem_of_getElem? (i := 0) (by decide +kernel)), by decide +kernel, by decide +kernel⟩
theorem SL_compare : Jvm.Cond.static yL_compare ∈ lw_tbl := z_in (List.mem_of_getElem? (i := 973) (by decide +kernel))
def CL_lock_0 : List zEn := [(0, .aload_n 3, 1, 0, 0), (1, .iconst 0, 2, 0, 0), (2, .aload_n 0, 3, 0, 0), (3, .iload_n 1, 4, 0, 0), (4, .iload_n 2, 5, 0, 0), (5, .invokevirtual 64, 8, 0, 189), (8, .i2l, 9, 0, 0), (9, .lastore, 10, 0, 0), (10, .goto 7, 13, 0, 17), (13, .astore 4, 15, 0, 0), (15, .iconst 1, 16, 1, 0), (16, .ireturn, 17, 0, 0), (17, .iconst 0, 18, 0, 0), (18, .ireturn, 19, 0, 0)]
def ML_lock : zMI := (yL_lock, cL_lock, 5, (some .int), [(99999, CL_lock_0)], [(0, 10, 13, 13)])
theorem DL_lock_0 : CL_lock_0.all (zchk cL_lock) = true := by decide +kernel
theorem OL_lock : zMOK ML_lock := by
  intro q hq e he
  simp only [ML_lock, zFt, List.mem_cons, List.not_mem_nil, or_false] at hq
  rcases hq with rfl
  · exact List.all_eq_true.mp DL_lock_0 e he
theorem KL_lock : zMK ML_lock := ⟨OL_lock, by decide +kernel, z_in (List.mem_of_getElem? (i := 981) (by decide +kernel)), z_in (List.mem_of_getElem? (i := 0) (by decide +kernel)), by decide +kernel, by decide +kernel⟩
theorem SL_lock : Jvm.Cond.static yL_lock ∈ lw_tbl := z_in (List.mem_of_getElem? (i := 980) (by decide +kernel))
def CL_unlock_0 : List zEn := [(0, .aload_n 3, 1, 0, 0), (1, .iconst 0, 2, 0, 0), (2, .aload_n 0, 3, 0, 0), (3, .iload_n 1, 4, 0, 0), (4, .iload_n 2, 5, 0, 0), (5, .invokevirtual 67, 8, 0, 193), (8, .i2l, 9, 0, 0), (9, .lastore, 10, 0, 0), (10, .goto 7, 13, 0, 17), (13, .astore 4, 15, 0, 0), (15, .iconst 1, 16, 1, 0), (16, .ireturn, 17, 0, 0), (17, .iconst 0, 18, 0, 0), (18, .ireturn, 19, 0, 0)]
def ML_unlock : zMI := (yL_unlock, cL_unlock, 5, (some .int), [(99999, CL_unlock_0)], [(0, 10, 13, 13)])
theorem DL_unlock_0 : CL_unlock_0.all (zchk cL_unlock) = true := by decide +kernel
theorem OL_unlock : zMOK ML_unlock := by
  intro q hq e he
  simp only [ML_unlock, zFt, List.mem_cons, List.not_mem_nil, or_false] at hq
  rcases hq with rfl
  · exact List.all_eq_true.mp DL_unlock_0 e he
theorem KL_unlock : zMK ML_unlock := ⟨OL_unlock, by decide +kernel, z_in (List.mem_of_getElem? (i := 993) (by decide +kernel)), z_in (List.mem_of_getElem? (i := 0) (by decide +kernel)), by decide +kernel, by decide +kernel⟩
theorem SL_unlock : Jvm.Cond.static yL_unlock ∈ lw_tbl := z_in (List.mem_of_getElem? (i := 992) (by decide +kernel))
def CL_report_0 : List zEn := [(0, .aload_n 3, 1, 0, 0), (1, .iconst 0, 2, 0, 0), (2, .aload_n 0, 3, 0, 0), (3, .iload_n 1, 4, 0, 0), (4, .iload_n 2, 5, 0, 0), (5, .invokevirtual 70, 8, 0, 195), (8, .i2l, 9, 0, 0), (9, .lastore, 10, 0, 0), (10, .goto 11, 13, 0, 21), (13, .astore 4, 15, 0, 0), (15, .iconst 1, 16, 1, 0), (16, .ireturn, 17, 0, 0), (17, .astore 4, 19, 0, 0), (19, .iconst 2, 20, 2, 0), (20, .ireturn, 21, 0, 0), (21, .iconst 0, 22, 0, 0), (22, .ireturn, 23, 0, 0)]
def ML_report : zMI := (yL_report, cL_report, 5, (some .int), [(99999, CL_report_0)], [(0, 10, 13, 29), (0, 10, 17, 13)])
theorem DL_report_0 : CL_report_0.all (zchk cL_report) = true := by decide +kernel
theorem OL_report : zMOK ML_report := by
  intro q hq e he
  simp only [ML_report, zFt, List.mem_cons, List.not_mem_nil, or_false] at hq
  rcases hq with rfl
  · exact List.all_eq_true.mp DL_report_0 e he
theorem KL_report : zMK ML_report := ⟨OL_report, by decide +kernel, z_in (List.mem_of_getElem? (i := 1000) (by decide +kernel)), z_in (List.mem_of_getElem? (i := 0) (by decide +kernel)), by decide +kernel, by decide +kernel⟩
theorem SL_report : Jvm.Cond.static yL_report ∈ lw_tbl := z_in (List.mem_of_getElem? (i := 999) (by decide +kernel))
def CL_block_0 : List zEn := [(0, .aload_n 3, 1, 0, 0), (1, .iconst 0, 2, 0, 0), (2, .aload_n 0, 3, 0, 0), (3, .iload_n 1, 4, 0, 0), (4, .iload_n 2, 5, 0, 0), (5, .invokevirtual 73, 8, 0, 198), (8, .i2l, 9, 0, 0), (9, .lastore, 10, 0, 0), (10, .goto 11, 13, 0, 21), (13, .astore 4, 15, 0, 0), (15, .iconst 1, 16, 1, 0), (16, .ireturn, 17, 0, 0), (17, .astore 4, 19, 0, 0), (19, .iconst 2, 20, 2, 0), (20, .ireturn, 21, 0, 0), (21, .iconst 0, 22, 0, 0), (22, .ireturn, 23, 0, 0)]
def ML_block : zMI := (yL_block, cL_block, 5, (some .int), [(99999, CL_block_0)], [(0, 10, 13, 29), (0, 10, 17, 13)])
theorem DL_block_0 : CL_block_0.all (zchk cL_block) = true := by decide +kernel
theorem OL_block : zMOK ML_block := by
  intro q hq e he
  simp only [ML_block, zFt, List.mem_cons, List.not_mem_nil, or_false] at hq
  rcases hq with rfl
  · exact List.all_eq_true.mp DL_block_0 e he
theorem KL_block : zMK ML_block := ⟨OL_block, by decide +kernel, z_in (List.mem_of_getElem? (i := 1011) (by decide +kernel)), z_in (List.mem_of_getElem? (i := 0) (by decide +kernel)), by decide +kernel, by decide +kernel⟩
theorem SL_block : Jvm.Cond.static yL_block ∈ lw_tbl := z_in (List.mem_of_getElem? (i := 1010) (by decide +kernel))
def CL_shadow_0 : List zEn := [(0, .aload_n 2, 1, 0, 0), (1, .iconst 0, 2, 0, 0), (2, .aload_n 0, 3, 0, 0), (3, .iload_n 1, 4, 0, 0), (4, .invokevirtual 76, 7, 0, 201), (7, .i2l, 8, 0, 0), (8, .lastore, 9, 0, 0), (9, .goto 6, 12, 0, 15), (12, .astore_n 3, 13, 0, 0), (13, .iconst 1, 14, 1, 0), (14, .ireturn, 15, 0, 0), (15, .iconst 0, 16, 0, 0), (16, .ireturn, 17, 0, 0)]
def ML_shadow : zMI := (yL_shadow, cL_shadow, 4, (some .int), [(99999, CL_shadow_0)], [(0, 9, 12, 29)])
theorem DL_shadow_0 : CL_shadow_0.all (zchk cL_shadow) = true := by decide +kernel
theorem OL_shadow : zMOK ML_shadow := by
  intro q hq e he
  simp only [ML_shadow, zFt, List.mem_cons, List.not_mem_nil, or_false] at hq
  rcases hq with rfl
  · exact List.all_eq_true.mp DL_shadow_0 e he
theorem KL_shadow : zMK ML_shadow := ⟨OL_shadow, by decide +kernel, z_in (List.mem_of_getElem? (i := 1023) (by decide +kernel)), z_in (List.mem_of_getElem? (i := 0) (by decide +kernel)), by decide +kernel, by decide +kernel⟩
theorem SL_shadow : Jvm.Cond.static yL_shadow ∈ lw_tbl := z_in (List.mem_of_getElem? (i := 1022) (by decide +kernel))
def CL_peek_0 : List zEn := [(0, .aload_n 2, 1, 0, 0), (1, .iconst 0, 2, 0, 0), (2, .aload_n 0, 3, 0, 0), (3, .iload_n 1, 4, 0, 0), (4, .invokevirtual 79, 7, 0, 205), (7, .i2l, 8, 0, 0), (8, .lastore, 9, 0, 0), (9, .goto 6, 12, 0, 15), (12, .astore_n 3, 13, 0, 0), (13, .iconst 1, 14, 1, 0), (14, .ireturn, 15, 0, 0), (15, .iconst 0, 16, 0, 0), (16, .ireturn, 17, 0, 0)]
def ML_peek : zMI := (yL_peek, cL_peek, 4, (some .int), [(99999, CL_peek_0)], [(0, 9, 12, 29)])
theorem DL_peek_0 : CL_peek_0.all (zchk cL_peek) = true := by decide +kernel
theorem OL_peek : zMOK ML_peek := by
  intro q hq e he
  simp only [ML_peek, zFt, List.mem_cons, List.not_mem_nil, or_false] at hq
  rcases hq with rfl
  · exact List.all_eq_true.mp DL_peek_0 e he
theorem KL_peek : zMK ML_peek := ⟨OL_peek, by decide +kernel, z_in (List.mem_of_getElem? (i := 1035) (by decide +kernel)), z_in (List.mem_of_getElem? (i := 0) (by decide +kernel)), by decide +kernel, by decide +kernel⟩
theorem SL_peek : Jvm.Cond.static yL_peek ∈ lw_tbl := z_in (List.mem_of_getElem? (i := 1034) (by decide +kernel))
def CL_held_0 : List zEn := [(0, .aload_n 2, 1, 0, 0), (1, .iconst 0, 2, 0, 0), (2, .aload_n 0, 3, 0, 0), (3, .iload_n 1, 4, 0, 0), (4, .invokevirtual 82, 7, 0, 207), (7, .i2l, 8, 0, 0), (8, .lastore, 9, 0, 0), (9, .goto 6, 12, 0, 15), (12, .astore_n 3, 13, 0, 0), (13, .iconst 1, 14, 1, 0), (14, .ireturn, 15, 0, 0), (15, .iconst 0, 16, 0, 0), (16, .ireturn, 17, 0, 0)]
def ML_held : zMI := (yL_held, cL_held, 4, (some .int), [(99999, CL_held_0)], [(0, 9, 12, 29)])
theorem DL_held_0 : CL_held_0.all (zchk cL_held) = true := by decide +kernel
theorem OL_held : zMOK ML_held := by
  intro q hq e he
  simp only [ML_held, zFt, List.mem_cons, List.not_mem_nil, or_false] at hq
  rcases hq with rfl
  · exact List.all_eq_true.mp DL_held_0 e he
theorem KL_held : zMK ML_held := ⟨OL_held, by decide +kernel, z_in (List.mem_of_getElem? (i := 1042) (by decide +kernel)), z_in (List.mem_of_getElem? (i := 0) (by decide +kernel)), by decide +kernel, by decide +kernel⟩
theorem SL_held : Jvm.Cond.static yL_held ∈ lw_tbl := z_in (List.mem_of_getElem? (i := 1041) (by decide +kernel))
def CL_told_0 : List zEn := [(0, .aload_n 2, 1, 0, 0), (1, .iconst 0, 2, 0, 0), (2, .aload_n 0, 3, 0, 0), (3, .iload_n 1, 4, 0, 0), (4, .invokevirtual 85, 7, 0, 209), (7, .i2l, 8, 0, 0), (8, .lastore, 9, 0, 0), (9, .goto 6, 12, 0, 15), (12, .astore_n 3, 13, 0, 0), (13, .iconst 1, 14, 1, 0), (14, .ireturn, 15, 0, 0), (15, .iconst 0, 16, 0, 0), (16, .ireturn, 17, 0, 0)]
def ML_told : zMI := (yL_told, cL_told, 4, (some .int), [(99999, CL_told_0)], [(0, 9, 12, 13)])
theorem DL_told_0 : CL_told_0.all (zchk cL_told) = true := by decide +kernel
theorem OL_told : zMOK ML_told := by
  intro q hq e he
  simp only [ML_told, zFt, List.mem_cons, List.not_mem_nil, or_false] at hq
  rcases hq with rfl
  · exact List.all_eq_true.mp DL_told_0 e he
theorem KL_told : zMK ML_told := ⟨OL_told, by decide +kernel, z_in (List.mem_of_getElem? (i := 1049) (by decide +kernel)), z_in (List.mem_of_getElem? (i := 0) (by decide +kernel)), by decide +kernel, by decide +kernel⟩
theorem SL_told : Jvm.Cond.static yL_told ∈ lw_tbl := z_in (List.mem_of_getElem? (i := 1048) (by decide +kernel))
