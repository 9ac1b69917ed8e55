section
-- ===== PART A: goes FIRST, ahead of the names: the tables' words, and 'selects' of the private methods out of them =====
/-- a private method of a class that the tables say can be made, by its rows of tables_1 -/
def lw_okq (q : MethodName × Nat) : Prop := (q.1.cls ≠ "java/lang/invoke/MethodHandle" ∧ q.1.cls ≠ "java/lang/invoke/VarHandle") ∧ Cond.instantiable q.1.cls q.2 ∈ tables_1 ∧ Cond.privateMethod q.1 ∈ tables_1 ∧ Cond.instanceMethod q.1 ∈ tables_1
theorem lw_p0 : lw_okq (⟨"ShadowWard", "permits", "(III)Z"⟩, 6) := ⟨⟨by decide +kernel, by decide +kernel⟩, List.mem_of_getElem? (i := 30) (by decide +kernel), List.mem_of_getElem? (i := 232) (by decide +kernel), List.mem_of_getElem? (i := 233) (by decide +kernel)⟩
theorem lw_p1 : lw_okq (⟨"ShadowWard$Memory", "goodBytes", "(I)I"⟩, 5) := ⟨⟨by decide +kernel, by decide +kernel⟩, List.mem_of_getElem? (i := 38) (by decide +kernel), List.mem_of_getElem? (i := 252) (by decide +kernel), List.mem_of_getElem? (i := 253) (by decide +kernel)⟩
theorem lw_p2 : lw_okq (⟨"ShadowWard", "tell", "(IIII)V"⟩, 6) := ⟨⟨by decide +kernel, by decide +kernel⟩, List.mem_of_getElem? (i := 30) (by decide +kernel), List.mem_of_getElem? (i := 260) (by decide +kernel), List.mem_of_getElem? (i := 261) (by decide +kernel)⟩
theorem lw_p3 : lw_okq (⟨"java/util/ArrayList", "add", "(Ljava/lang/Object;[Ljava/lang/Object;I)V"⟩, 3) := ⟨⟨by decide +kernel, by decide +kernel⟩, List.mem_of_getElem? (i := 88) (by decide +kernel), List.mem_of_getElem? (i := 371) (by decide +kernel), List.mem_of_getElem? (i := 372) (by decide +kernel)⟩
theorem lw_p4 : lw_okq (⟨"java/util/ArrayList", "grow", "()[Ljava/lang/Object;"⟩, 3) := ⟨⟨by decide +kernel, by decide +kernel⟩, List.mem_of_getElem? (i := 88) (by decide +kernel), List.mem_of_getElem? (i := 375) (by decide +kernel), List.mem_of_getElem? (i := 376) (by decide +kernel)⟩
theorem lw_p5 : lw_okq (⟨"java/util/ArrayList", "grow", "(I)[Ljava/lang/Object;"⟩, 3) := ⟨⟨by decide +kernel, by decide +kernel⟩, List.mem_of_getElem? (i := 88) (by decide +kernel), List.mem_of_getElem? (i := 379) (by decide +kernel), List.mem_of_getElem? (i := 380) (by decide +kernel)⟩
theorem lw_p6 : lw_okq (⟨"ShadowWard", "isCount", "(I)Z"⟩, 6) := ⟨⟨by decide +kernel, by decide +kernel⟩, List.mem_of_getElem? (i := 30) (by decide +kernel), List.mem_of_getElem? (i := 439) (by decide +kernel), List.mem_of_getElem? (i := 440) (by decide +kernel)⟩
theorem lw_p7 : lw_okq (⟨"java/lang/Throwable", "fillInStackTrace", "(I)Ljava/lang/Throwable;"⟩, 6) := ⟨⟨by decide +kernel, by decide +kernel⟩, List.mem_of_getElem? (i := 484) (by decide +kernel), List.mem_of_getElem? (i := 482) (by decide +kernel), List.mem_of_getElem? (i := 483) (by decide +kernel)⟩
theorem lw_p8 : lw_okq (⟨"ShadowWard$LostSearch", "markFound", "()V"⟩, 5) := ⟨⟨by decide +kernel, by decide +kernel⟩, List.mem_of_getElem? (i := 183) (by decide +kernel), List.mem_of_getElem? (i := 534) (by decide +kernel), List.mem_of_getElem? (i := 535) (by decide +kernel)⟩
theorem lw_p9 : lw_okq (⟨"ShadowWard$LostSearch", "findFrom", "(LShadowWard$Region;)V"⟩, 5) := ⟨⟨by decide +kernel, by decide +kernel⟩, List.mem_of_getElem? (i := 183) (by decide +kernel), List.mem_of_getElem? (i := 546) (by decide +kernel), List.mem_of_getElem? (i := 547) (by decide +kernel)⟩
theorem lw_p10 : lw_okq (⟨"ShadowWard$LostSearch", "ledToFrom", "(I)LShadowWard$Block;"⟩, 5) := ⟨⟨by decide +kernel, by decide +kernel⟩, List.mem_of_getElem? (i := 183) (by decide +kernel), List.mem_of_getElem? (i := 550) (by decide +kernel), List.mem_of_getElem? (i := 551) (by decide +kernel)⟩
theorem lw_p11 : lw_okq (⟨"ShadowWard$Heap", "chunkOwner", "(I)LShadowWard$Block;"⟩, 8) := ⟨⟨by decide +kernel, by decide +kernel⟩, List.mem_of_getElem? (i := 140) (by decide +kernel), List.mem_of_getElem? (i := 563) (by decide +kernel), List.mem_of_getElem? (i := 564) (by decide +kernel)⟩
theorem lw_p12 : lw_okq (⟨"ShadowWard$LostSearch", "markLedToByLost", "()V"⟩, 5) := ⟨⟨by decide +kernel, by decide +kernel⟩, List.mem_of_getElem? (i := 183) (by decide +kernel), List.mem_of_getElem? (i := 577) (by decide +kernel), List.mem_of_getElem? (i := 578) (by decide +kernel)⟩
theorem lw_p13 : lw_okq (⟨"ShadowWard$LostSearch", "markLedToFrom", "(LShadowWard$Block;)V"⟩, 5) := ⟨⟨by decide +kernel, by decide +kernel⟩, List.mem_of_getElem? (i := 183) (by decide +kernel), List.mem_of_getElem? (i := 585) (by decide +kernel), List.mem_of_getElem? (i := 586) (by decide +kernel)⟩
theorem lw_p14 : lw_okq (⟨"ShadowWard$Globals", "nextAddress", "()I"⟩, 2) := ⟨⟨by decide +kernel, by decide +kernel⟩, List.mem_of_getElem? (i := 82) (by decide +kernel), List.mem_of_getElem? (i := 605) (by decide +kernel), List.mem_of_getElem? (i := 606) (by decide +kernel)⟩
theorem lw_p15 : lw_okq (⟨"ShadowWard$Frames", "addVariable", "(LShadowWard$Frame;II)I"⟩, 2) := ⟨⟨by decide +kernel, by decide +kernel⟩, List.mem_of_getElem? (i := 123) (by decide +kernel), List.mem_of_getElem? (i := 712) (by decide +kernel), List.mem_of_getElem? (i := 713) (by decide +kernel)⟩
def lw_privs_1 : List (MethodName × Nat) := [(⟨"ShadowWard", "permits", "(III)Z"⟩, 6), (⟨"ShadowWard$Memory", "goodBytes", "(I)I"⟩, 5), (⟨"ShadowWard", "tell", "(IIII)V"⟩, 6), (⟨"java/util/ArrayList", "add", "(Ljava/lang/Object;[Ljava/lang/Object;I)V"⟩, 3), (⟨"java/util/ArrayList", "grow", "()[Ljava/lang/Object;"⟩, 3), (⟨"java/util/ArrayList", "grow", "(I)[Ljava/lang/Object;"⟩, 3), (⟨"ShadowWard", "isCount", "(I)Z"⟩, 6), (⟨"java/lang/Throwable", "fillInStackTrace", "(I)Ljava/lang/Throwable;"⟩, 6), (⟨"ShadowWard$LostSearch", "markFound", "()V"⟩, 5), (⟨"ShadowWard$LostSearch", "findFrom", "(LShadowWard$Region;)V"⟩, 5), (⟨"ShadowWard$LostSearch", "ledToFrom", "(I)LShadowWard$Block;"⟩, 5), (⟨"ShadowWard$Heap", "chunkOwner", "(I)LShadowWard$Block;"⟩, 8), (⟨"ShadowWard$LostSearch", "markLedToByLost", "()V"⟩, 5), (⟨"ShadowWard$LostSearch", "markLedToFrom", "(LShadowWard$Block;)V"⟩, 5), (⟨"ShadowWard$Globals", "nextAddress", "()I"⟩, 2), (⟨"ShadowWard$Frames", "addVariable", "(LShadowWard$Frame;II)I"⟩, 2)]
theorem lw_r1 : ∀ q ∈ lw_privs_1, lw_okq q := List.forall_mem_cons.mpr ⟨lw_p0, List.forall_mem_cons.mpr ⟨lw_p1, List.forall_mem_cons.mpr ⟨lw_p2, List.forall_mem_cons.mpr ⟨lw_p3, List.forall_mem_cons.mpr ⟨lw_p4, List.forall_mem_cons.mpr ⟨lw_p5, List.forall_mem_cons.mpr ⟨lw_p6, List.forall_mem_cons.mpr ⟨lw_p7, List.forall_mem_cons.mpr ⟨lw_p8, List.forall_mem_cons.mpr ⟨lw_p9, List.forall_mem_cons.mpr ⟨lw_p10, List.forall_mem_cons.mpr ⟨lw_p11, List.forall_mem_cons.mpr ⟨lw_p12, List.forall_mem_cons.mpr ⟨lw_p13, List.forall_mem_cons.mpr ⟨lw_p14, List.forall_mem_cons.mpr ⟨lw_p15, fun _ h => absurd h List.not_mem_nil⟩⟩⟩⟩⟩⟩⟩⟩⟩⟩⟩⟩⟩⟩⟩⟩
theorem lw_p16 : lw_okq (⟨"ShadowWard$Frames", "paintFrame", "(LShadowWard$Frame;)V"⟩, 2) := ⟨⟨by decide +kernel, by decide +kernel⟩, List.mem_of_getElem? (i := 123) (by decide +kernel), List.mem_of_getElem? (i := 736) (by decide +kernel), List.mem_of_getElem? (i := 737) (by decide +kernel)⟩
theorem lw_p17 : lw_okq (⟨"java/util/ArrayList", "fastRemove", "([Ljava/lang/Object;I)V"⟩, 3) := ⟨⟨by decide +kernel, by decide +kernel⟩, List.mem_of_getElem? (i := 88) (by decide +kernel), List.mem_of_getElem? (i := 775) (by decide +kernel), List.mem_of_getElem? (i := 776) (by decide +kernel)⟩
theorem lw_p18 : lw_okq (⟨"ShadowWard", "variableOf", "(II)LShadowWard$Variable;"⟩, 6) := ⟨⟨by decide +kernel, by decide +kernel⟩, List.mem_of_getElem? (i := 30) (by decide +kernel), List.mem_of_getElem? (i := 788) (by decide +kernel), List.mem_of_getElem? (i := 789) (by decide +kernel)⟩
theorem lw_p19 : lw_okq (⟨"ShadowWard$Heap", "unitWithRoom", "(I)I"⟩, 8) := ⟨⟨by decide +kernel, by decide +kernel⟩, List.mem_of_getElem? (i := 140) (by decide +kernel), List.mem_of_getElem? (i := 846) (by decide +kernel), List.mem_of_getElem? (i := 847) (by decide +kernel)⟩
theorem lw_p20 : lw_okq (⟨"ShadowWard$Heap", "firstFreeRun", "(I)I"⟩, 8) := ⟨⟨by decide +kernel, by decide +kernel⟩, List.mem_of_getElem? (i := 140) (by decide +kernel), List.mem_of_getElem? (i := 850) (by decide +kernel), List.mem_of_getElem? (i := 851) (by decide +kernel)⟩
theorem lw_p21 : lw_okq (⟨"ShadowWard$Heap", "releaseOldest", "()V"⟩, 8) := ⟨⟨by decide +kernel, by decide +kernel⟩, List.mem_of_getElem? (i := 140) (by decide +kernel), List.mem_of_getElem? (i := 854) (by decide +kernel), List.mem_of_getElem? (i := 855) (by decide +kernel)⟩
theorem lw_p22 : lw_okq (⟨"ShadowWard$Heap", "setOwner", "(LShadowWard$Block;LShadowWard$Block;)V"⟩, 8) := ⟨⟨by decide +kernel, by decide +kernel⟩, List.mem_of_getElem? (i := 140) (by decide +kernel), List.mem_of_getElem? (i := 864) (by decide +kernel), List.mem_of_getElem? (i := 865) (by decide +kernel)⟩
theorem lw_p23 : lw_okq (⟨"ShadowWard", "blockToFree", "(II)LShadowWard$Block;"⟩, 6) := ⟨⟨by decide +kernel, by decide +kernel⟩, List.mem_of_getElem? (i := 30) (by decide +kernel), List.mem_of_getElem? (i := 921) (by decide +kernel), List.mem_of_getElem? (i := 922) (by decide +kernel)⟩
theorem lw_p24 : lw_okq (⟨"ShadowWardModel", "refuses", "(I)Z"⟩, 30) := ⟨⟨by decide +kernel, by decide +kernel⟩, List.mem_of_getElem? (i := 1063) (by decide +kernel), List.mem_of_getElem? (i := 1169) (by decide +kernel), List.mem_of_getElem? (i := 1170) (by decide +kernel)⟩
theorem lw_p25 : lw_okq (⟨"ShadowWardModel", "opens", "(II)V"⟩, 30) := ⟨⟨by decide +kernel, by decide +kernel⟩, List.mem_of_getElem? (i := 1063) (by decide +kernel), List.mem_of_getElem? (i := 1173) (by decide +kernel), List.mem_of_getElem? (i := 1174) (by decide +kernel)⟩
theorem lw_p26 : lw_okq (⟨"ShadowWardModel", "paint", "(III)V"⟩, 30) := ⟨⟨by decide +kernel, by decide +kernel⟩, List.mem_of_getElem? (i := 1063) (by decide +kernel), List.mem_of_getElem? (i := 1187) (by decide +kernel), List.mem_of_getElem? (i := 1188) (by decide +kernel)⟩
theorem lw_p27 : lw_okq (⟨"ShadowWardModel", "noVariable", "(II)Z"⟩, 30) := ⟨⟨by decide +kernel, by decide +kernel⟩, List.mem_of_getElem? (i := 1063) (by decide +kernel), List.mem_of_getElem? (i := 1199) (by decide +kernel), List.mem_of_getElem? (i := 1200) (by decide +kernel)⟩
theorem lw_p28 : lw_okq (⟨"ShadowWardModel", "given", "(III)I"⟩, 30) := ⟨⟨by decide +kernel, by decide +kernel⟩, List.mem_of_getElem? (i := 1063) (by decide +kernel), List.mem_of_getElem? (i := 1211) (by decide +kernel), List.mem_of_getElem? (i := 1212) (by decide +kernel)⟩
theorem lw_p29 : lw_okq (⟨"ShadowWardModel", "placeFor", "(I)I"⟩, 30) := ⟨⟨by decide +kernel, by decide +kernel⟩, List.mem_of_getElem? (i := 1063) (by decide +kernel), List.mem_of_getElem? (i := 1218) (by decide +kernel), List.mem_of_getElem? (i := 1219) (by decide +kernel)⟩
theorem lw_p30 : lw_okq (⟨"ShadowWardModel", "isFree", "(II)Z"⟩, 30) := ⟨⟨by decide +kernel, by decide +kernel⟩, List.mem_of_getElem? (i := 1063) (by decide +kernel), List.mem_of_getElem? (i := 1222) (by decide +kernel), List.mem_of_getElem? (i := 1223) (by decide +kernel)⟩
theorem lw_p31 : lw_okq (⟨"ShadowWardModel", "oldestLeaves", "()V"⟩, 30) := ⟨⟨by decide +kernel, by decide +kernel⟩, List.mem_of_getElem? (i := 1063) (by decide +kernel), List.mem_of_getElem? (i := 1226) (by decide +kernel), List.mem_of_getElem? (i := 1227) (by decide +kernel)⟩
def lw_privs_2 : List (MethodName × Nat) := [(⟨"ShadowWard$Frames", "paintFrame", "(LShadowWard$Frame;)V"⟩, 2), (⟨"java/util/ArrayList", "fastRemove", "([Ljava/lang/Object;I)V"⟩, 3), (⟨"ShadowWard", "variableOf", "(II)LShadowWard$Variable;"⟩, 6), (⟨"ShadowWard$Heap", "unitWithRoom", "(I)I"⟩, 8), (⟨"ShadowWard$Heap", "firstFreeRun", "(I)I"⟩, 8), (⟨"ShadowWard$Heap", "releaseOldest", "()V"⟩, 8), (⟨"ShadowWard$Heap", "setOwner", "(LShadowWard$Block;LShadowWard$Block;)V"⟩, 8), (⟨"ShadowWard", "blockToFree", "(II)LShadowWard$Block;"⟩, 6), (⟨"ShadowWardModel", "refuses", "(I)Z"⟩, 30), (⟨"ShadowWardModel", "opens", "(II)V"⟩, 30), (⟨"ShadowWardModel", "paint", "(III)V"⟩, 30), (⟨"ShadowWardModel", "noVariable", "(II)Z"⟩, 30), (⟨"ShadowWardModel", "given", "(III)I"⟩, 30), (⟨"ShadowWardModel", "placeFor", "(I)I"⟩, 30), (⟨"ShadowWardModel", "isFree", "(II)Z"⟩, 30), (⟨"ShadowWardModel", "oldestLeaves", "()V"⟩, 30)]
theorem lw_r2 : ∀ q ∈ lw_privs_2, lw_okq q := List.forall_mem_cons.mpr ⟨lw_p16, List.forall_mem_cons.mpr ⟨lw_p17, List.forall_mem_cons.mpr ⟨lw_p18, List.forall_mem_cons.mpr ⟨lw_p19, List.forall_mem_cons.mpr ⟨lw_p20, List.forall_mem_cons.mpr ⟨lw_p21, List.forall_mem_cons.mpr ⟨lw_p22, List.forall_mem_cons.mpr ⟨lw_p23, List.forall_mem_cons.mpr ⟨lw_p24, List.forall_mem_cons.mpr ⟨lw_p25, List.forall_mem_cons.mpr ⟨lw_p26, List.forall_mem_cons.mpr ⟨lw_p27, List.forall_mem_cons.mpr ⟨lw_p28, List.forall_mem_cons.mpr ⟨lw_p29, List.forall_mem_cons.mpr ⟨lw_p30, List.forall_mem_cons.mpr ⟨lw_p31, fun _ h => absurd h List.not_mem_nil⟩⟩⟩⟩⟩⟩⟩⟩⟩⟩⟩⟩⟩⟩⟩⟩
theorem lw_p32 : lw_okq (⟨"ShadowWardModel", "mayGo", "(II)I"⟩, 30) := ⟨⟨by decide +kernel, by decide +kernel⟩, List.mem_of_getElem? (i := 1063) (by decide +kernel), List.mem_of_getElem? (i := 1234) (by decide +kernel), List.mem_of_getElem? (i := 1235) (by decide +kernel)⟩
theorem lw_p33 : lw_okq (⟨"ShadowWardModel", "blockIn", "(II)I"⟩, 30) := ⟨⟨by decide +kernel, by decide +kernel⟩, List.mem_of_getElem? (i := 1063) (by decide +kernel), List.mem_of_getElem? (i := 1238) (by decide +kernel), List.mem_of_getElem? (i := 1239) (by decide +kernel)⟩
theorem lw_p34 : lw_okq (⟨"ShadowWardModel", "tells", "(IJIZ)V"⟩, 30) := ⟨⟨by decide +kernel, by decide +kernel⟩, List.mem_of_getElem? (i := 1063) (by decide +kernel), List.mem_of_getElem? (i := 1242) (by decide +kernel), List.mem_of_getElem? (i := 1243) (by decide +kernel)⟩
theorem lw_p35 : lw_okq (⟨"ShadowWardModel", "nearer", "(IJIIII)V"⟩, 30) := ⟨⟨by decide +kernel, by decide +kernel⟩, List.mem_of_getElem? (i := 1063) (by decide +kernel), List.mem_of_getElem? (i := 1246) (by decide +kernel), List.mem_of_getElem? (i := 1247) (by decide +kernel)⟩
theorem lw_p36 : lw_okq (⟨"ShadowWardModel", "regionAt", "(II)I"⟩, 30) := ⟨⟨by decide +kernel, by decide +kernel⟩, List.mem_of_getElem? (i := 1063) (by decide +kernel), List.mem_of_getElem? (i := 1253) (by decide +kernel), List.mem_of_getElem? (i := 1254) (by decide +kernel)⟩
theorem lw_p37 : lw_okq (⟨"ShadowWardModel", "goes", "(II)V"⟩, 30) := ⟨⟨by decide +kernel, by decide +kernel⟩, List.mem_of_getElem? (i := 1063) (by decide +kernel), List.mem_of_getElem? (i := 1257) (by decide +kernel), List.mem_of_getElem? (i := 1258) (by decide +kernel)⟩
theorem lw_p38 : lw_okq (⟨"ShadowWardModel", "heldBytes", "()I"⟩, 30) := ⟨⟨by decide +kernel, by decide +kernel⟩, List.mem_of_getElem? (i := 1063) (by decide +kernel), List.mem_of_getElem? (i := 1261) (by decide +kernel), List.mem_of_getElem? (i := 1262) (by decide +kernel)⟩
theorem lw_p39 : lw_okq (⟨"ShadowWardModel", "right", "(JIIIZ)Z"⟩, 30) := ⟨⟨by decide +kernel, by decide +kernel⟩, List.mem_of_getElem? (i := 1063) (by decide +kernel), List.mem_of_getElem? (i := 1273) (by decide +kernel), List.mem_of_getElem? (i := 1274) (by decide +kernel)⟩
theorem lw_p40 : lw_okq (⟨"ShadowWardModel", "wrong", "(J)I"⟩, 30) := ⟨⟨by decide +kernel, by decide +kernel⟩, List.mem_of_getElem? (i := 1063) (by decide +kernel), List.mem_of_getElem? (i := 1277) (by decide +kernel), List.mem_of_getElem? (i := 1278) (by decide +kernel)⟩
theorem lw_p41 : lw_okq (⟨"ShadowWardModel", "noAmount", "(I)Z"⟩, 30) := ⟨⟨by decide +kernel, by decide +kernel⟩, List.mem_of_getElem? (i := 1063) (by decide +kernel), List.mem_of_getElem? (i := 1290) (by decide +kernel), List.mem_of_getElem? (i := 1291) (by decide +kernel)⟩
theorem lw_p42 : lw_okq (⟨"ShadowWardModel", "copies", "(IIIZ)Z"⟩, 30) := ⟨⟨by decide +kernel, by decide +kernel⟩, List.mem_of_getElem? (i := 1063) (by decide +kernel), List.mem_of_getElem? (i := 1298) (by decide +kernel), List.mem_of_getElem? (i := 1299) (by decide +kernel)⟩
theorem lw_p43 : lw_okq (⟨"ShadowWardModel", "lengthOf", "(I)I"⟩, 30) := ⟨⟨by decide +kernel, by decide +kernel⟩, List.mem_of_getElem? (i := 1063) (by decide +kernel), List.mem_of_getElem? (i := 1306) (by decide +kernel), List.mem_of_getElem? (i := 1307) (by decide +kernel)⟩
theorem lw_p44 : lw_okq (⟨"ShadowWardModel", "change", "(IIII)I"⟩, 30) := ⟨⟨by decide +kernel, by decide +kernel⟩, List.mem_of_getElem? (i := 1063) (by decide +kernel), List.mem_of_getElem? (i := 1322) (by decide +kernel), List.mem_of_getElem? (i := 1323) (by decide +kernel)⟩
theorem lw_p45 : lw_okq (⟨"ShadowWardModel", "walk", "()V"⟩, 30) := ⟨⟨by decide +kernel, by decide +kernel⟩, List.mem_of_getElem? (i := 1063) (by decide +kernel), List.mem_of_getElem? (i := 1354) (by decide +kernel), List.mem_of_getElem? (i := 1355) (by decide +kernel)⟩
theorem lw_p46 : lw_okq (⟨"ShadowWardModel", "isRooted", "(I)Z"⟩, 30) := ⟨⟨by decide +kernel, by decide +kernel⟩, List.mem_of_getElem? (i := 1063) (by decide +kernel), List.mem_of_getElem? (i := 1358) (by decide +kernel), List.mem_of_getElem? (i := 1359) (by decide +kernel)⟩
theorem lw_p47 : lw_okq (⟨"ShadowWardModel", "leads", "(III)Z"⟩, 30) := ⟨⟨by decide +kernel, by decide +kernel⟩, List.mem_of_getElem? (i := 1063) (by decide +kernel), List.mem_of_getElem? (i := 1362) (by decide +kernel), List.mem_of_getElem? (i := 1363) (by decide +kernel)⟩
def lw_privs_3 : List (MethodName × Nat) := [(⟨"ShadowWardModel", "mayGo", "(II)I"⟩, 30), (⟨"ShadowWardModel", "blockIn", "(II)I"⟩, 30), (⟨"ShadowWardModel", "tells", "(IJIZ)V"⟩, 30), (⟨"ShadowWardModel", "nearer", "(IJIIII)V"⟩, 30), (⟨"ShadowWardModel", "regionAt", "(II)I"⟩, 30), (⟨"ShadowWardModel", "goes", "(II)V"⟩, 30), (⟨"ShadowWardModel", "heldBytes", "()I"⟩, 30), (⟨"ShadowWardModel", "right", "(JIIIZ)Z"⟩, 30), (⟨"ShadowWardModel", "wrong", "(J)I"⟩, 30), (⟨"ShadowWardModel", "noAmount", "(I)Z"⟩, 30), (⟨"ShadowWardModel", "copies", "(IIIZ)Z"⟩, 30), (⟨"ShadowWardModel", "lengthOf", "(I)I"⟩, 30), (⟨"ShadowWardModel", "change", "(IIII)I"⟩, 30), (⟨"ShadowWardModel", "walk", "()V"⟩, 30), (⟨"ShadowWardModel", "isRooted", "(I)Z"⟩, 30), (⟨"ShadowWardModel", "leads", "(III)Z"⟩, 30)]
theorem lw_r3 : ∀ q ∈ lw_privs_3, lw_okq q := List.forall_mem_cons.mpr ⟨lw_p32, List.forall_mem_cons.mpr ⟨lw_p33, List.forall_mem_cons.mpr ⟨lw_p34, List.forall_mem_cons.mpr ⟨lw_p35, List.forall_mem_cons.mpr ⟨lw_p36, List.forall_mem_cons.mpr ⟨lw_p37, List.forall_mem_cons.mpr ⟨lw_p38, List.forall_mem_cons.mpr ⟨lw_p39, List.forall_mem_cons.mpr ⟨lw_p40, List.forall_mem_cons.mpr ⟨lw_p41, List.forall_mem_cons.mpr ⟨lw_p42, List.forall_mem_cons.mpr ⟨lw_p43, List.forall_mem_cons.mpr ⟨lw_p44, List.forall_mem_cons.mpr ⟨lw_p45, List.forall_mem_cons.mpr ⟨lw_p46, List.forall_mem_cons.mpr ⟨lw_p47, fun _ h => absurd h List.not_mem_nil⟩⟩⟩⟩⟩⟩⟩⟩⟩⟩⟩⟩⟩⟩⟩⟩
theorem lw_p48 : lw_okq (⟨"ShadowWardModel", "word", "(I)J"⟩, 30) := ⟨⟨by decide +kernel, by decide +kernel⟩, List.mem_of_getElem? (i := 1063) (by decide +kernel), List.mem_of_getElem? (i := 1366) (by decide +kernel), List.mem_of_getElem? (i := 1367) (by decide +kernel)⟩
theorem lw_p49 : lw_okq (⟨"ShadowWardModel", "isLost", "(I)Z"⟩, 30) := ⟨⟨by decide +kernel, by decide +kernel⟩, List.mem_of_getElem? (i := 1063) (by decide +kernel), List.mem_of_getElem? (i := 1371) (by decide +kernel), List.mem_of_getElem? (i := 1372) (by decide +kernel)⟩
theorem lw_p50 : lw_okq (⟨"ShadowWardModel", "isAlone", "(I)Z"⟩, 30) := ⟨⟨by decide +kernel, by decide +kernel⟩, List.mem_of_getElem? (i := 1063) (by decide +kernel), List.mem_of_getElem? (i := 1375) (by decide +kernel), List.mem_of_getElem? (i := 1376) (by decide +kernel)⟩
theorem lw_p51 : lw_okq (⟨"ShadowWardModel", "good", "()I"⟩, 30) := ⟨⟨by decide +kernel, by decide +kernel⟩, List.mem_of_getElem? (i := 1063) (by decide +kernel), List.mem_of_getElem? (i := 1383) (by decide +kernel), List.mem_of_getElem? (i := 1384) (by decide +kernel)⟩
def lw_privs_4 : List (MethodName × Nat) := [(⟨"ShadowWardModel", "word", "(I)J"⟩, 30), (⟨"ShadowWardModel", "isLost", "(I)Z"⟩, 30), (⟨"ShadowWardModel", "isAlone", "(I)Z"⟩, 30), (⟨"ShadowWardModel", "good", "()I"⟩, 30)]
theorem lw_r4 : ∀ q ∈ lw_privs_4, lw_okq q := List.forall_mem_cons.mpr ⟨lw_p48, List.forall_mem_cons.mpr ⟨lw_p49, List.forall_mem_cons.mpr ⟨lw_p50, List.forall_mem_cons.mpr ⟨lw_p51, fun _ h => absurd h List.not_mem_nil⟩⟩⟩⟩
def lw_privs : List (MethodName × Nat) := lw_privs_1 ++ (lw_privs_2 ++ (lw_privs_3 ++ (lw_privs_4)))
def lw_tbl : List Cond := k2_sels lw_privs ++ tables_1
theorem lw_privs_ok : ∀ q ∈ lw_privs, lw_okq q := by
  show ∀ q ∈ lw_privs_1 ++ (lw_privs_2 ++ (lw_privs_3 ++ (lw_privs_4))), lw_okq q
  exact List.forall_mem_append.mpr ⟨lw_r1, List.forall_mem_append.mpr ⟨lw_r2, List.forall_mem_append.mpr ⟨lw_r3, lw_r4⟩⟩⟩
-- ===== end of PART A; then your names; then what follows =====
end
section
/-! ===== BEGIN words of one list among another's, by their places ===== -/
theorem goodIn_r {big : List Cond} (ws : List Cond) (ps : List Nat) (hp : ws = ps.filterMap (fun i => big[i]?)) (h : ws.all goodWord = true) : GoodIn big ws := by
  intro w hw
  have h1 := List.all_eq_true.mp h w hw
  rw [hp] at hw
  obtain ⟨i, -, hi⟩ := List.mem_filterMap.mp hw
  have hm : w ∈ big := by first | exact List.mem_of_getElem? hi | exact List.getElem?_mem hi
  exact ⟨hm, good_of_word h1⟩
theorem goodIn_app {big a b : List Cond} (ha : GoodIn big a) (hb : GoodIn big b) : GoodIn big (a ++ b) := fun w h => (List.mem_append.mp h).elim (ha w) (hb w)
theorem goodIn_ca {big a b : List Cond} {c : Cond} (ha : GoodIn big (c :: a)) (hb : GoodIn big b) : GoodIn big (c :: (a ++ b)) := fun w h => (List.mem_cons.mp h).elim (fun e => ha w (List.mem_cons.mpr (Or.inl e))) (fun h => (List.mem_append.mp h).elim (fun h => ha w (List.mem_cons.mpr (Or.inr h))) (hb w))
theorem goodIn_sub {big ws : List Cond} (hm : ∀ w ∈ ws, w ∈ big) (h : ws.all goodWord = true) : GoodIn big ws := fun w hw => ⟨hm w hw, good_of_word (List.all_eq_true.mp h w hw)⟩
/-! ===== END ===== -/

/-! ===== BEGIN exceptions that leave a method, and their catching by the caller (launches without stack traces) ===== -/
section VXA
/-! The laws vx_back, vx_callV, vx_callS, vx_callSW, vx_throw0, vx_throwS follow proofs of the library, with one case more: JvmDerived/Free/Laws.lean (Back.of_free), Shelf42/LK1.lean (callV, callS), Shelf/KitTraced.lean (throwNew0V, throwNewS). -/
/-- where a method has thrown q: the class by its name, the cell, what was written, the world -/
def vx_T (XC : String → State → State → Prop) (st : State) (q : Addr) (t : State) (mc ms : Nat) (free : Addr → Prop) : Prop :=
  ∃ (E : String) (ce : Cell) (L : List Loc), XC E st t ∧ t.heap[q]? = some ce ∧ ce.vm = .none ∧ st.vm.findClass E = some ce.cls ∧ st.WarmedH t.vm ∧ st.sameButNew ({ t with vm := st.vm } : State) L mc ms ∧ ∀ z ∈ L, free z.base
def vx_Q (Qc : Array Value → State → Outcome → State → Prop) (XC : String → State → State → Prop) (mc ms : Nat) (free : Addr → Prop) : Array Value → State → Outcome → State → Prop := fun a st o t =>
  (Qc a st o t ∧ ∃ L, FrameEnd st o t L mc ms ∧ ∀ q ∈ L, free q.base) ∨ ∃ q, o = .threw q ∧ vx_T XC st q t mc ms free
/-- a callee that returns or throws -/
def vx_Met (l : Launch) (y : MethodName) (ws : List Cond) (rm : Room) (Pc : Array Value → State → Prop) (Qc : Array Value → State → Outcome → State → Prop) (XC : String → State → State → Prop) (mc ms : Nat) (free : Addr → Prop) : Prop :=
  MetFree l y (headSpec ws rm) Pc (fun _ _ _ _ _ => True) (vx_Q Qc XC mc ms free)
def vx_Post (XC : String → State → State → Prop) (mc ms : Nat) (free : Addr → Prop) : Pt → Array Value → Addr → Pt → Prop := fun A a q B =>
  ∃ (g : JFrame) (mk : MethodId) (t : State) (L : List Loc) (E : String) (ce : Cell), B.U.heap = t.heap ∧ B.U.vm = t.vm ∧ XC E (A.U.calling g mk a) t ∧ t.heap[q]? = some ce ∧ ce.vm = .none ∧ A.U.vm.findClass E = some ce.cls ∧ B.locs = A.locs ++ L ∧ (∀ z ∈ L, free z.base) ∧ B.cells = A.cells + mc ∧ B.slots = A.slots + ms
def vx_Back (l : Launch) (R : Room) (p : Program) (e : Env) (below : List Frame) (s : State) (sargs : Array Value) (y : MethodName) (len W9 : Nat)
    (Pre : Pt → Array Value → Prop) (Post : Pt → Array Value → Option Value → Pt → Prop) (PostX : Pt → Array Value → Addr → Pt → Prop) : Prop :=
  ∀ (m : MethodId) (meth : Method) (c : Code) (A : Pt) (g : JFrame) (ig : Instr) (mk : MethodId) (a : Array Value),
    Stand p l e R s m sargs below meth c A.U A.locs A.cells A.slots → g.method = m → g.locals.size = c.maxLocals → decode c.code g.pc = .ok (ig, len) →
    2 * g.monitorRoom + (g.stack.map fun v => v.category).sum ≤ W9 → A.U.methodNamed? y = some mk → Pre A a →
    (∃ (v : Option Value) (B : Pt), Stand p l e R s m sargs below meth c B.U B.locs B.cells B.slots ∧ Post A a v B ∧
      Steps p.tables e below (doInvoke e (A.U.setTop g) [] mk a).1 (B.U.setTop { g with pc := g.pc + len, stack := v.toList ++ g.stack })) ∨
    (∃ (q : Addr) (B : Pt), Stand p l e R s m sargs below meth c B.U B.locs B.cells B.slots ∧ PostX A a q B ∧
      Steps p.tables e below (doInvoke e (A.U.setTop g) [] mk a).1 ((B.U.setTop g).pushFrame (.throwing q)))
section Payer
variable {l : Launch} {R : Room} {p : Program} {e : Env} {below : List Frame} {s : State} {sargs : Array Value} {y : MethodName} {len W9 : Nat}
theorem vx_back {ws : List Cond} {rm : Room} {Pc : Array Value → State → Prop} {Qc : Array Value → State → Outcome → State → Prop} {XC : String → State → State → Prop} {mc ms : Nat} {free : Addr → Prop} {bytes : ByteArray} {maxL : Nat} {ret : Option FieldType}
    (hM : vx_Met l y ws rm Pc Qc XC mc ms free) (hblind : FrameBlind Pc) (hrc : rm.cells = mc) (hrs : rm.slots = ms)
    (hframes : rm.frames + 1 ≤ R.frames) (hlocals : W9 + (maxL + 11) + rm.locals ≤ R.locals)
    (hws : ∀ w ∈ ws, ∀ a' U, s.WarmedH U.vm → w.before a' U = true) (hcode : Cond.code y bytes maxL ret ∈ ws) (hinit : ∀ a' U, s.WarmedH U.vm → (Cond.initialized y.cls).before a' U = true) :
    vx_Back l R p e below s sargs y len W9 (PreOf R mc ms Pc) (PostOf Qc mc ms free) (vx_Post XC mc ms free) := by
  intro m meth c A g ig mk a X hg hsize hdg hW hn hp
  have h1 : (headSpec ws rm).pre.before a A.U = true := atoms_intro fun w hw => hws w hw _ _ X.warmed
  have h2 : (Cond.code y bytes maxL ret).before a A.U = true := hws _ hcode _ _ X.warmed
  have h3 : (Cond.initialized y.cls).before a A.U = true := hinit _ _ X.warmed
  have h4 : A.cells + (headSpec ws rm).room.cells ≤ R.cells := by rw [show (headSpec ws rm).room.cells = mc from hrc]; exact hp.1
  have h5 : A.slots + (headSpec ws rm).room.slots ≤ R.slots := by rw [show (headSpec ws rm).room.slots = ms from hrs]; exact hp.2.1
  have hPc : Pc a (A.U.calling g mk a) := hblind _ _ _ _ hp.2.2
  obtain ⟨U, Ls, c0, s0⟩ := A
  dsimp only [Pt.U, Pt.locs, Pt.cells, Pt.slots] at h1 h2 h3 h4 h5 X hn hPc ⊢
  obtain ⟨methY, cY, hmY, hcY, -, hlY, -, -, -, -⟩ := Cond.code_spec hn h2
  obtain ⟨kY, hkY, -⟩ := className_of_methodNamed hn
  have hinitY : kY.init = .initialized := Cond.initialized_spec (findClass_of_methodNamed hn) hkY h3
  have h : At U g.method c below := by rw [hg]; exact X.here
  have hlocals9 : W9 + (maxL + 11) + (headSpec ws rm).room.locals ≤ R.locals := hlocals
  have happ : (headSpec ws rm).appliesLoose y e.platform (U.calling g mk a) = true :=
    Spec.appliesLoose_calling (g := g) h hdg hn hkY hinitY
      (X.room_calling (g := g) (R' := (headSpec ws rm).room) hsize hmY hcY hframes (by rw [hlY]; omega) h4 h5) h1
  obtain ⟨mid, hmid⟩ := h.above
  have hfr : (U.setTop g).frames = (.java g :: mid) ++ below := by rw [State.frames_setTop' g h.top, hmid]; rfl
  obtain ⟨o, s₂, hsteps, -, hend, hq⟩ := Steps.callFree hM p X.admits X.cas X.clock (acts := []) hfr happ hPc trivial
  have hq' : vx_Q Qc XC mc ms free a (U.calling g mk a) o s₂ := hq
  rw [State.frames_setTop' g h.top] at hend
  obtain ⟨g₀, hg0⟩ := Option.isSome_iff_exists.mp h.top
  obtain ⟨r, hr⟩ := State.topJava?_eq_some.mp hg0
  have hr' : (({ U with heap := s₂.heap, slotsUsed := s₂.slotsUsed } : State).setVm s₂.vm).frames = .java g₀ :: r := hr
  rcases hq' with ⟨hqc, L, hfe, hL⟩ | ⟨q, rfl, E, ce, L, hx, hce, hcv, hcl, hW₂, hsm, hL⟩
  · obtain ⟨⟨v, rfl⟩, hW₂, e2, q2, q3, q4, q5, q6⟩ := id hfe
    have e3 : s₂ = ({ (U.calling g mk a).setFrames s₂.frames with heap := s₂.heap, slotsUsed := s₂.slotsUsed } : State).setVm s₂.vm := by
      have : s₂ = ({ s₂ with vm := (U.calling g mk a).vm } : State).setVm s₂.vm := rfl
      rw [e2] at this
      exact this
    obtain ⟨c₂, i₂, len₂, hc₂, hd₂, hf₂⟩ := hend
    have hW' : U.WarmedH s₂.vm := hW₂
    have hcc : c₂ = c := by
      have h1 : s₂.code? g.method = U.code? g.method := by
        rw [State.code?_eq, State.code?_eq, hW'.alike.method?]
      exact Option.some.inj (hc₂.symm.trans (h1.trans h.code))
    subst hcc
    have hlen : len₂ = len := by rw [hdg] at hd₂; cases hd₂; rfl
    subst hlen
    have hs₂ : s₂ = (({ U with heap := s₂.heap, slotsUsed := s₂.slotsUsed } : State).setVm s₂.vm).setTop { g with pc := g.pc + len₂, stack := v.toList ++ g.stack } := by
      refine e3.trans ?_
      rw [hf₂, State.calling_eq h.top, State.setFrames_setFrames, State.setTop_of_frames _ hr', hr]
      rfl
    have hsame : U.sameButNew ({ U with heap := s₂.heap, slotsUsed := s₂.slotsUsed } : State) L mc ms := by
      refine ⟨?_, q2, q3, q4, q5, q6⟩
      obtain ⟨t, ht, -⟩ := State.frames_cons hr
      show ({ U with heap := s₂.heap, slotsUsed := s₂.slotsUsed } : State) = { U.setFrames U.frames with heap := s₂.heap, slotsUsed := s₂.slotsUsed }
      rw [State.setFrames_self ht]
    subst hg
    refine Or.inl ⟨v, ⟨(({ U with heap := s₂.heap, slotsUsed := s₂.slotsUsed } : State).setVm s₂.vm), Ls ++ L, c0 + mc, s0 + ms⟩,
      ⟨X.admits, X.cas, X.clock, X.frames, X.room, X.hears, X.method, X.code, (X.here.setHeapUsed s₂.heap s₂.slotsUsed).setVm hW'.alike, X.tail, State.WarmedH.trans X.warmed hW', X.limits, X.bytes, X.same.trans (hsame.setVm s.vm)⟩,
      ⟨g, mk, s₂, L, rfl, rfl, hqc, rfl, hL, rfl, rfl⟩, ?_⟩
    show Steps p.tables e below _ ((({ U with heap := s₂.heap, slotsUsed := s₂.slotsUsed } : State).setVm s₂.vm).setTop { g with pc := g.pc + len₂, stack := v.toList ++ g.stack })
    rw [← hs₂]
    exact hsteps
  · obtain ⟨e2, q2, q3, q4, q5, q6⟩ := id hsm
    have e3 : s₂ = ({ (U.calling g mk a).setFrames s₂.frames with heap := s₂.heap, slotsUsed := s₂.slotsUsed } : State).setVm s₂.vm := by
      have : s₂ = ({ s₂ with vm := (U.calling g mk a).vm } : State).setVm s₂.vm := rfl
      rw [e2] at this
      exact this
    have hf₂ : s₂.frames = .throwing q :: .java g :: U.frames.tail := hend
    have hW' : U.WarmedH s₂.vm := hW₂
    have hs₂ : s₂ = ((({ U with heap := s₂.heap, slotsUsed := s₂.slotsUsed } : State).setVm s₂.vm).setTop g).pushFrame (.throwing q) := by
      refine e3.trans ?_
      rw [hf₂, State.calling_eq h.top, State.setFrames_setFrames, State.pushFrame, State.frames_setTop _ hr', State.setTop_of_frames _ hr', State.setFrames_setFrames, hr]
      rfl
    have hsame : U.sameButNew ({ U with heap := s₂.heap, slotsUsed := s₂.slotsUsed } : State) L mc ms := by
      refine ⟨?_, q2, q3, q4, q5, q6⟩
      obtain ⟨t, ht, -⟩ := State.frames_cons hr
      show ({ U with heap := s₂.heap, slotsUsed := s₂.slotsUsed } : State) = { U.setFrames U.frames with heap := s₂.heap, slotsUsed := s₂.slotsUsed }
      rw [State.setFrames_self ht]
    subst hg
    refine Or.inr ⟨q, ⟨(({ U with heap := s₂.heap, slotsUsed := s₂.slotsUsed } : State).setVm s₂.vm), Ls ++ L, c0 + mc, s0 + ms⟩,
      ⟨X.admits, X.cas, X.clock, X.frames, X.room, X.hears, X.method, X.code, (X.here.setHeapUsed s₂.heap s₂.slotsUsed).setVm hW'.alike, X.tail, State.WarmedH.trans X.warmed hW', X.limits, X.bytes, X.same.trans (hsame.setVm s.vm)⟩,
      ⟨g, mk, s₂, L, E, ce, rfl, rfl, hx, hce, hcv, hcl, rfl, hL, rfl, rfl⟩, ?_⟩
    show Steps p.tables e below _ (((({ U with heap := s₂.heap, slotsUsed := s₂.slotsUsed } : State).setVm s₂.vm).setTop g).pushFrame (.throwing q))
    rw [← hs₂]
    exact hsteps
end Payer
section Calls
variable {p : Program} {l : Launch} {e : Env} {R : Room} {s : State} {m : MethodId} {args : Array Value} {below : List Frame} {meth : Method} {c : Code} {T : State} {locs : List Loc} {cells slots : Nat}
theorem vx_callV (X : Stand p l e R s m args below meth c T locs cells slots) (hexec : p.tables.exec = Jvm.exec) {own C : String} {index : Nat} {y : MethodName} {bytes : ByteArray} {maxL : Nat} {ret : Option FieldType}
    (hown : s.vm.findClass own = some m.cls) (hlink : (Cond.methodLink own index y).before args s = true) (hinst : (Cond.instanceMethod y).before args s = true) (hsel : (Cond.selects C y y).before args s = true)
    (hcode : (Cond.code y bytes maxL ret).before args s = true) (hy : y.cls ≠ "java/lang/invoke/MethodHandle" ∧ y.cls ≠ "java/lang/invoke/VarHandle")
    {W9 : Nat} {Pre : Pt → Array Value → Prop} {Post : Pt → Array Value → Option Value → Pt → Prop} {PostX : Pt → Array Value → Addr → Pt → Prop} (hK : vx_Back l R p e below s args y 3 W9 Pre Post PostX)
    {b : Addr} {cellB : Cell} (hcell : T.heap[b]? = some cellB) (hobj : cellB.vm.isStatics = false) (hcls : s.vm.findClass C = some cellB.cls)
    {g : JFrame} (hg : g.method = m) (hsize : g.locals.size = c.maxLocals) {argsL rest : List Value} (hlen : ∀ sig, parseMethodDescriptor y.desc = some sig → argsL.length = sig.parameters.length)
    (hstack : g.stack = argsL.reverse ++ .ref b :: rest) (hW : 2 * g.monitorRoom + (rest.map fun v => v.category).sum ≤ W9) (hdg : decode c.code g.pc = .ok (.invokevirtual index, 3))
    (hpre : ∀ vm₁, s.WarmedH vm₁ → Pre ⟨T.setVm vm₁, locs, cells, slots⟩ (Value.ref b :: argsL).toArray) :
    (∃ (v : Option Value) (vm₁ : Vm) (B : Pt), s.WarmedH vm₁ ∧ Stand p l e R s m args below meth c B.U B.locs B.cells B.slots ∧ Post ⟨T.setVm vm₁, locs, cells, slots⟩ (Value.ref b :: argsL).toArray v B ∧
      ∀ target, Steps p.tables e below (B.U.setTop { g with pc := g.pc + 3, stack := v.toList ++ rest }) target → Steps p.tables e below (T.setTop g) target) ∨
    (∃ (q : Addr) (vm₁ : Vm) (B : Pt), s.WarmedH vm₁ ∧ Stand p l e R s m args below meth c B.U B.locs B.cells B.slots ∧ PostX ⟨T.setVm vm₁, locs, cells, slots⟩ (Value.ref b :: argsL).toArray q B ∧
      Steps p.tables e below (T.setTop g) ((B.U.setTop { g with stack := rest }).pushFrame (.throwing q))) := by
  obtain ⟨mk, methM, hnamed, hmethM, hstM, habM⟩ := Cond.instanceMethod_spec hinst
  obtain ⟨methM', cM, hmethM', -, -, -, -, -, -, hsigM⟩ := Cond.code_spec hnamed hcode
  cases hmethM.symm.trans hmethM'
  obtain ⟨c2, r2, m2, q1, q2, q3, q4, kP, hkP, hkPi⟩ := Cond.selects_spec hsel
  cases hcls.symm.trans q1
  cases (State.methodFound?_of_named hnamed hy).symm.trans q2
  cases hnamed.symm.trans q3
  have hselP : selectMethod e.platform s.vm cellB.cls mk = .method mk := by rw [Launch.admits_selectMethod X.admits]; exact q4
  obtain ⟨vm₁, X₁, hstep₁⟩ := X.invokevirtual hexec hown hlink hnamed hmethM hstM hkP hkPi hy (a := b) (cell := cellB) hcell
    (fun z h => by rw [h] at hobj; cases hobj) hselP hmethM habM hkP hkPi (g := g) hg (argsL := argsL) (rest := rest) (hlen _ hsigM) hstack hdg
  rcases hK m meth c ⟨T.setVm vm₁, locs, cells, slots⟩ { g with stack := rest } (.invokevirtual index) mk (Value.ref b :: argsL).toArray X₁ hg hsize hdg hW (X₁.named hnamed) (hpre vm₁ X₁.warmed) with ⟨v, B, X', hpost, hsteps⟩ | ⟨q, B, X', hpost, hsteps⟩
  · exact Or.inl ⟨v, vm₁, B, X₁.warmed, X', hpost, fun target h => hstep₁ _ fun acts => by rw [doInvoke_state]; exact hsteps.trans h⟩
  · exact Or.inr ⟨q, vm₁, B, X₁.warmed, X', hpost, hstep₁ _ fun acts => by rw [doInvoke_state]; exact hsteps⟩
theorem vx_callS (X : Stand p l e R s m args below meth c T locs cells slots) (hexec : p.tables.exec = Jvm.exec) {own : String} {index : Nat} {y : MethodName} {bytes : ByteArray} {maxL : Nat} {ret : Option FieldType}
    (hown : s.vm.findClass own = some m.cls) (hlink : (Cond.methodLink own index y).before args s = true) (hstat : (Cond.static y).before args s = true) (hinit : (Cond.initialized y.cls).before args s = true)
    (hcode : (Cond.code y bytes maxL ret).before args s = true) (hy : y.cls ≠ "java/lang/invoke/MethodHandle" ∧ y.cls ≠ "java/lang/invoke/VarHandle")
    {W9 : Nat} {Pre : Pt → Array Value → Prop} {Post : Pt → Array Value → Option Value → Pt → Prop} {PostX : Pt → Array Value → Addr → Pt → Prop} (hK : vx_Back l R p e below s args y 3 W9 Pre Post PostX)
    {g : JFrame} (hg : g.method = m) (hsize : g.locals.size = c.maxLocals) {argsL rest : List Value} (hlen : ∀ sig, parseMethodDescriptor y.desc = some sig → argsL.length = sig.parameters.length)
    (hstack : g.stack = argsL.reverse ++ rest) (hW : 2 * g.monitorRoom + (rest.map fun v => v.category).sum ≤ W9) (hdg : decode c.code g.pc = .ok (.invokestatic index, 3))
    (hpre : ∀ vm₁, s.WarmedH vm₁ → Pre ⟨T.setVm vm₁, locs, cells, slots⟩ argsL.toArray) :
    (∃ (v : Option Value) (vm₁ : Vm) (B : Pt), s.WarmedH vm₁ ∧ Stand p l e R s m args below meth c B.U B.locs B.cells B.slots ∧ Post ⟨T.setVm vm₁, locs, cells, slots⟩ argsL.toArray v B ∧
      ∀ target, Steps p.tables e below (B.U.setTop { g with pc := g.pc + 3, stack := v.toList ++ rest }) target → Steps p.tables e below (T.setTop g) target) ∨
    (∃ (q : Addr) (vm₁ : Vm) (B : Pt), s.WarmedH vm₁ ∧ Stand p l e R s m args below meth c B.U B.locs B.cells B.slots ∧ PostX ⟨T.setVm vm₁, locs, cells, slots⟩ argsL.toArray q B ∧
      Steps p.tables e below (T.setTop g) ((B.U.setTop { g with stack := rest }).pushFrame (.throwing q))) := by
  obtain ⟨mk, hnamed⟩ := Cond.code_named hcode
  obtain ⟨methM, cM, hmethM, -, -, -, -, -, -, hsigM⟩ := Cond.code_spec hnamed hcode
  have hstatic : methM.isStatic = true := Cond.static_spec hnamed hmethM hstat
  obtain ⟨kP, hkP, -⟩ := className_of_methodNamed hnamed
  have hinitP : kP.init = .initialized := Cond.initialized_spec (findClass_of_methodNamed hnamed) hkP hinit
  obtain ⟨vm₁, X₁, hstep₁⟩ := X.invokestatic hexec hown hlink hnamed hmethM hstatic hkP hinitP hy (g := g) hg (argsL := argsL) (rest := rest) (hlen _ hsigM) hstack hdg
  rcases hK m meth c ⟨T.setVm vm₁, locs, cells, slots⟩ { g with stack := rest } (.invokestatic index) mk argsL.toArray X₁ hg hsize hdg hW (X₁.named hnamed) (hpre vm₁ X₁.warmed) with ⟨v, B, X', hpost, hsteps⟩ | ⟨q, B, X', hpost, hsteps⟩
  · exact Or.inl ⟨v, vm₁, B, X₁.warmed, X', hpost, fun target h => hstep₁ _ fun acts => by rw [doInvoke_state]; exact hsteps.trans h⟩
  · exact Or.inr ⟨q, vm₁, B, X₁.warmed, X', hpost, hstep₁ _ fun acts => by rw [doInvoke_state]; exact hsteps⟩
end Calls
theorem vx_cls {s : State} {T : State} {vm₁ : Vm} {E : String} {k : ClassId} (hW : s.WarmedH vm₁) (h : (T.setVm vm₁).vm.findClass E = some k) : s.vm.findClass E = some k := by
  have h1 : vm₁.findClass E = some k := h
  rw [hW.alike.findClass] at h1
  exact h1
/-- the method's frame g, with q thrown over it -/
def vx_W (p : Program) (l : Launch) (e : Env) (R : Room) (s : State) (m : MethodId) (args : Array Value) (below : List Frame) (meth : Method) (c : Code) (H : Heap) (locs : List Loc) (cells slots : Nat) (Q : State → Prop) (g : JFrame) (q : Addr) : Prop :=
  ∀ T : State, T.heap = H → Stand p l e R s m args below meth c T locs cells slots → ∃ t, Steps p.tables e below ((T.setTop g).pushFrame (.throwing q)) t ∧ Q t
def vx_Run (p : Program) (l : Launch) (e : Env) (R : Room) (s : State) (m : MethodId) (args : Array Value) (below : List Frame) (meth : Method) (c : Code) (H : Heap) (locs : List Loc) (cells slots mc ms : Nat) (g : JFrame) (rest : List Value) (Qa : State → Outcome → State → Prop) (XC : String → State → State → Prop) (free : Addr → Prop) : Prop :=
  ∀ T : State, T.heap = H → Stand p l e R s m args below meth c T locs cells slots →
    (∃ (v : Option Value) (st₀ t T' : State) (L : List Loc), st₀.heap = H ∧ Stand p l e R s m args below meth c T' (locs ++ L) (cells + mc) (slots + ms) ∧ (∀ q ∈ L, free q.base) ∧ T'.heap = t.heap ∧ T'.vm = t.vm ∧ Qa st₀ (.returned v) t ∧
      Goes p e below T g T' { g with pc := g.pc + 3, stack := v.toList ++ rest }) ∨
    (∃ (q : Addr) (st₀ t T' : State) (L : List Loc) (E : String) (ce : Cell), st₀.heap = H ∧ Stand p l e R s m args below meth c T' (locs ++ L) (cells + mc) (slots + ms) ∧ (∀ z ∈ L, free z.base) ∧ T'.heap = t.heap ∧ T'.vm = t.vm ∧ XC E st₀ t ∧ t.heap[q]? = some ce ∧ ce.vm = .none ∧ s.vm.findClass E = some ce.cls ∧
      Steps p.tables e below (T.setTop g) ((T'.setTop { g with stack := rest }).pushFrame (.throwing q)))
def vx_X {S : Type} (px : S → Prop) (B : String → S → State → Prop) (A : Nat → Prop) : String → State → State → Prop := fun E st t => ∃ u : S, px u ∧ B E u t ∧ va_F A st t
section Runs
variable {p : Program} {l : Launch} {e : Env} {R : Room} {s : State} {m : MethodId} {args : Array Value} {below : List Frame} {meth : Method} {c : Code} {H : Heap} {locs : List Loc} {cells slots : Nat}
variable {y : MethodName} {bytes cc : ByteArray} {maxL nL mc ms n index : Nat} {ret : Option FieldType} {ws : List Cond} {rm : Room} {Pc : Array Value → State → Prop} {Qc : Array Value → State → Outcome → State → Prop} {XC : String → State → State → Prop} {free : Addr → Prop} {Ts : List Cond} {own C : String} {b : Addr} {As rest : List Value} {g : JFrame}
theorem vx_callBack (cb : CallB R s args own index y bytes maxL ret ws rm mc ms n) (hM : vx_Met l y ws rm Pc Qc XC mc ms free) (hbl : FrameBlind Pc) : vx_Back l R p e below s args y 3 8 (PreOf R mc ms Pc) (PostOf Qc mc ms free) (vx_Post XC mc ms free) := by
  obtain ⟨hrc, hrs, hfr, hlo, hws, hcw, -, hini, -⟩ := cb
  exact vx_back (bytes := bytes) (maxL := maxL) (ret := ret) hM hbl hrc hrs hfr hlo hws hcw (fun a' U hW => word_at hW (Or.inl (by first | rfl | simp [Cond.onTables, Cond.keeps, Cond.steady])) hini)
theorem vx_runV (S : CallFix p m c cc nL s args Ts own) (hM : vx_Met l y ws rm Pc Qc XC mc ms free) (cw : CallW R s args own C index y bytes maxL ret ws rm mc ms n) (hp : PreV s H C b Pc As)
    (hg : g.method = m) (hn : As.length = n) (hsize : g.locals.size = nL) (hstack : g.stack = As.reverse ++ .ref b :: rest) (hW : 2 * g.monitorRoom + (rest.map fun v => v.category).sum ≤ 8) (hdg : decode cc g.pc = .ok (.invokevirtual index, 3)) (hf : cells + mc ≤ R.cells ∧ slots + ms ≤ R.slots) :
    vx_Run p l e R s m args below meth c H locs cells slots mc ms g rest (Qc (Value.ref b :: As).toArray) XC free := by
  have hK : vx_Back l R p e below s args y 3 8 (PreOf R mc ms Pc) (PostOf Qc mc ms free) (vx_Post XC mc ms free) := vx_callBack cw.1 hM hp.1
  obtain ⟨⟨-, -, -, -, -, -, hcode, -, hy, hlen, hl⟩, hin, hse⟩ := cw
  obtain ⟨hx, hb, hml, ho, -⟩ := S
  obtain ⟨-, ⟨cellB, hcB, hoB, hclB⟩, hPc⟩ := hp
  intro T hT X
  rcases vx_callV X hx (C := C) (bytes := bytes) (maxL := maxL) (ret := ret) ho hl hin hse hcode hy hK (by rw [hT]; exact hcB) hoB hclB hg (hsize.trans hml.symm) (argsL := As) (rest := rest) (fun sig h => hn.trans (hlen sig h)) hstack hW (by rw [hb]; exact hdg)
    (fun vm₁ hW₁ => ⟨hf.1, hf.2, hPc (T.setVm vm₁) hT hW₁⟩) with ⟨v, vm₁, ⟨U', l2, c2, s2⟩, hW₁, X', ⟨g', mk, t, L, e1, e2, hq, h1, hL, h2, h3⟩, st⟩ | ⟨q, vm₁, ⟨U', l2, c2, s2⟩, hW₁, X', ⟨g', mk, t, L, E, ce, e1, e2, hq, hce, hcv, hcl, h1, hL, h2, h3⟩, st⟩
  · dsimp only [Pt.U, Pt.locs, Pt.cells, Pt.slots] at X' e1 e2 h1 h2 h3 st
    subst h1; subst h2; subst h3
    exact Or.inl ⟨v, (T.setVm vm₁).calling g' mk (Value.ref b :: As).toArray, t, U', L, hT, X', hL, e1, e2, hq, st⟩
  · dsimp only [Pt.U, Pt.locs, Pt.cells, Pt.slots] at X' e1 e2 h1 h2 h3 st hcl
    subst h1; subst h2; subst h3
    exact Or.inr ⟨q, (T.setVm vm₁).calling g' mk (Value.ref b :: As).toArray, t, U', L, E, ce, hT, X', hL, e1, e2, hq, hce, hcv, vx_cls hW₁ hcl, st⟩
theorem vx_runS (S : CallFix p m c cc nL s args Ts own) (hM : vx_Met l y ws rm Pc Qc XC mc ms free) (cw : CallB R s args own index y bytes maxL ret ws rm mc ms n ∧ (Cond.static y).before args s = true) (hp : PreS s H Pc As)
    (hg : g.method = m) (hn : As.length = n) (hsize : g.locals.size = nL) (hstack : g.stack = As.reverse ++ rest) (hW : 2 * g.monitorRoom + (rest.map fun v => v.category).sum ≤ 8) (hdg : decode cc g.pc = .ok (.invokestatic index, 3)) (hf : cells + mc ≤ R.cells ∧ slots + ms ≤ R.slots) :
    vx_Run p l e R s m args below meth c H locs cells slots mc ms g rest (Qc As.toArray) XC free := by
  have hK : vx_Back l R p e below s args y 3 8 (PreOf R mc ms Pc) (PostOf Qc mc ms free) (vx_Post XC mc ms free) := vx_callBack cw.1 hM hp.1
  obtain ⟨⟨-, -, -, -, -, -, hcode, hini, hy, hlen, hl⟩, hstt⟩ := cw
  obtain ⟨hx, hb, hml, ho, -⟩ := S
  intro T hT X
  rcases vx_callS X hx (bytes := bytes) (maxL := maxL) (ret := ret) ho hl hstt hini hcode hy hK hg (hsize.trans hml.symm) (argsL := As) (rest := rest) (fun sig h => hn.trans (hlen sig h)) hstack hW (by rw [hb]; exact hdg)
    (fun vm₁ hW₁ => ⟨hf.1, hf.2, hp.2 (T.setVm vm₁) hT hW₁⟩) with ⟨v, vm₁, ⟨U', l2, c2, s2⟩, hW₁, X', ⟨g', mk, t, L, e1, e2, hq, h1, hL, h2, h3⟩, st⟩ | ⟨q, vm₁, ⟨U', l2, c2, s2⟩, hW₁, X', ⟨g', mk, t, L, E, ce, e1, e2, hq, hce, hcv, hcl, h1, hL, h2, h3⟩, st⟩
  · dsimp only [Pt.U, Pt.locs, Pt.cells, Pt.slots] at X' e1 e2 h1 h2 h3 st
    subst h1; subst h2; subst h3
    exact Or.inl ⟨v, (T.setVm vm₁).calling g' mk As.toArray, t, U', L, hT, X', hL, e1, e2, hq, st⟩
  · dsimp only [Pt.U, Pt.locs, Pt.cells, Pt.slots] at X' e1 e2 h1 h2 h3 st hcl
    subst h1; subst h2; subst h3
    exact Or.inr ⟨q, (T.setVm vm₁).calling g' mk As.toArray, t, U', L, E, ce, hT, X', hL, e1, e2, hq, hce, hcv, vx_cls hW₁ hcl, st⟩
end Runs
section Rows
variable {p : Program} {l : Launch} {e : Env} {R : Room} {s : State} {m : MethodId} {args : Array Value} {below : List Frame} {meth : Method} {c : Code} {H : Heap} {locs : List Loc} {cells slots : Nat} {Q : State → Prop}
variable {mc ms : Nat} {free : Addr → Prop} {A0 A1 : Nat → Prop} {H0 : Heap} {a : Array Value} {pc : Nat} {ls : Array Slot} {st0 rest : List Value}
theorem vx_keep {st₀ t T' : State} {L : List Loc} (h0 : st₀.heap = H) (e1 : T'.heap = t.heap) (hS : va_S A0 H0 H locs) (hA : ∀ q, q < H.size → A1 q → A0 q) (hf : ∀ q, free q → A0 q) (hL : ∀ q ∈ L, free q.base) (hF : va_F A1 st₀ t) :
    H.size ≤ T'.heap.size ∧ (∀ q : Nat, q < H.size → ¬ A1 q → T'.heap[q]? = H[q]?) ∧ va_S A0 H0 T'.heap (locs ++ L) := by
  obtain ⟨hz, hk⟩ := hF
  rw [h0] at hz hk
  exact ⟨by rw [e1]; exact hz, fun q h1 h2 => by rw [e1]; exact hk q h1 h2,
    ⟨Nat.le_trans hS.1 (by rw [e1]; exact hz), fun q h1 h2 => by rw [e1, hk q (Nat.lt_of_lt_of_le h1 hS.1) (fun z => h2 (hA q (Nat.lt_of_lt_of_le h1 hS.1) z))]; exact hS.2.1 q h1 h2, fun q hq => by
      rcases List.mem_append.mp hq with h | h
      · exact hS.2.2 q h
      · exact hf _ (hL q h)⟩⟩
theorem vx_calli {S SX : Type} {post : Int32 → S → Prop} {px : SX → Prop} {B : S → State → Prop} {BX : String → SX → State → Prop} {AX : Nat → Prop} (hr : vx_Run p l e R s m args below meth c H locs cells slots mc ms (F0 m pc ls st0) rest (va_Qi post B A1 a) (vx_X px BX AX) free) (hS : va_S A0 H0 H locs) (hA : ∀ q, q < H.size → A1 q → A0 q) (hf : ∀ q, free q → A0 q) (hAX : ∀ q, q < H.size → AX q → A0 q)
    (kx : ∀ (E : String) (ce : Cell) (q9 : Addr) (u : SX) (t : State) (H1 : Heap) (locs1 : List Loc), t.heap = H1 → s.vm.Alike t.vm → px u → BX E u t → H.size ≤ H1.size → (∀ q : Nat, q < H.size → ¬ AX q → H1[q]? = H[q]?) → va_S A0 H0 H1 locs1 → H1[q9]? = some ce → ce.vm = .none → s.vm.findClass E = some ce.cls → vx_W p l e R s m args below meth c H1 locs1 (cells + mc) (slots + ms) Q (F0 m pc ls rest) q9)
    (kk : ∀ (r : Int32) (u : S) (t : State) (H1 : Heap) (locs1 : List Loc), t.heap = H1 → s.vm.Alike t.vm → post r u → B u t → H.size ≤ H1.size → (∀ q : Nat, q < H.size → ¬ A1 q → H1[q]? = H[q]?) → va_S A0 H0 H1 locs1 → W p l e R s m args below meth c H1 locs1 (cells + mc) (slots + ms) Q (F0 m (pc + 3) ls (.int r :: rest))) : W p l e R s m args below meth c H locs cells slots Q (F0 m pc ls st0) := by
  intro T hT X
  rcases hr T hT X with ⟨v, st₀, t, T', L, h0, X', hL, e1, e2, ⟨⟨r, u, hv, hp, hb⟩, hF⟩, st⟩ | ⟨q, st₀, t, T', L, E, ce, h0, X', hL, e1, e2, ⟨u, hp, hb, hF⟩, hce, hcv, hcl, st⟩
  · cases hv
    obtain ⟨k1, k2, k3⟩ := vx_keep h0 e1 hS hA hf hL hF
    obtain ⟨t2, a1, b1⟩ := kk r u t T'.heap (locs ++ L) e1.symm (by rw [← e2]; exact X'.warmed.alike) hp hb k1 k2 k3 T' rfl X'
    exact ⟨t2, st t2 a1, b1⟩
  · obtain ⟨k1, k2, k3⟩ := vx_keep h0 e1 hS hAX hf hL hF
    obtain ⟨t2, a1, b1⟩ := kx E ce q u t T'.heap (locs ++ L) e1.symm (by rw [← e2]; exact X'.warmed.alike) hp hb k1 k2 k3 (by rw [e1]; exact hce) hcv hcl T' rfl X'
    exact ⟨t2, st.trans a1, b1⟩
theorem vx_calll {S SX : Type} {post : Int64 → S → Prop} {px : SX → Prop} {B : S → State → Prop} {BX : String → SX → State → Prop} {AX : Nat → Prop} (hr : vx_Run p l e R s m args below meth c H locs cells slots mc ms (F0 m pc ls st0) rest (va_Ql post B A1 a) (vx_X px BX AX) free) (hS : va_S A0 H0 H locs) (hA : ∀ q, q < H.size → A1 q → A0 q) (hf : ∀ q, free q → A0 q) (hAX : ∀ q, q < H.size → AX q → A0 q)
    (kx : ∀ (E : String) (ce : Cell) (q9 : Addr) (u : SX) (t : State) (H1 : Heap) (locs1 : List Loc), t.heap = H1 → s.vm.Alike t.vm → px u → BX E u t → H.size ≤ H1.size → (∀ q : Nat, q < H.size → ¬ AX q → H1[q]? = H[q]?) → va_S A0 H0 H1 locs1 → H1[q9]? = some ce → ce.vm = .none → s.vm.findClass E = some ce.cls → vx_W p l e R s m args below meth c H1 locs1 (cells + mc) (slots + ms) Q (F0 m pc ls rest) q9)
    (kk : ∀ (r : Int64) (u : S) (t : State) (H1 : Heap) (locs1 : List Loc), t.heap = H1 → s.vm.Alike t.vm → post r u → B u t → H.size ≤ H1.size → (∀ q : Nat, q < H.size → ¬ A1 q → H1[q]? = H[q]?) → va_S A0 H0 H1 locs1 → W p l e R s m args below meth c H1 locs1 (cells + mc) (slots + ms) Q (F0 m (pc + 3) ls (.long r :: rest))) : W p l e R s m args below meth c H locs cells slots Q (F0 m pc ls st0) := by
  intro T hT X
  rcases hr T hT X with ⟨v, st₀, t, T', L, h0, X', hL, e1, e2, ⟨⟨r, u, hv, hp, hb⟩, hF⟩, st⟩ | ⟨q, st₀, t, T', L, E, ce, h0, X', hL, e1, e2, ⟨u, hp, hb, hF⟩, hce, hcv, hcl, st⟩
  · cases hv
    obtain ⟨k1, k2, k3⟩ := vx_keep h0 e1 hS hA hf hL hF
    obtain ⟨t2, a1, b1⟩ := kk r u t T'.heap (locs ++ L) e1.symm (by rw [← e2]; exact X'.warmed.alike) hp hb k1 k2 k3 T' rfl X'
    exact ⟨t2, st t2 a1, b1⟩
  · obtain ⟨k1, k2, k3⟩ := vx_keep h0 e1 hS hAX hf hL hF
    obtain ⟨t2, a1, b1⟩ := kx E ce q u t T'.heap (locs ++ L) e1.symm (by rw [← e2]; exact X'.warmed.alike) hp hb k1 k2 k3 (by rw [e1]; exact hce) hcv hcl T' rfl X'
    exact ⟨t2, st.trans a1, b1⟩
theorem vx_callf {S SX : Type} {post : UInt32 → S → Prop} {px : SX → Prop} {B : S → State → Prop} {BX : String → SX → State → Prop} {AX : Nat → Prop} (hr : vx_Run p l e R s m args below meth c H locs cells slots mc ms (F0 m pc ls st0) rest (va_Qf post B A1 a) (vx_X px BX AX) free) (hS : va_S A0 H0 H locs) (hA : ∀ q, q < H.size → A1 q → A0 q) (hf : ∀ q, free q → A0 q) (hAX : ∀ q, q < H.size → AX q → A0 q)
    (kx : ∀ (E : String) (ce : Cell) (q9 : Addr) (u : SX) (t : State) (H1 : Heap) (locs1 : List Loc), t.heap = H1 → s.vm.Alike t.vm → px u → BX E u t → H.size ≤ H1.size → (∀ q : Nat, q < H.size → ¬ AX q → H1[q]? = H[q]?) → va_S A0 H0 H1 locs1 → H1[q9]? = some ce → ce.vm = .none → s.vm.findClass E = some ce.cls → vx_W p l e R s m args below meth c H1 locs1 (cells + mc) (slots + ms) Q (F0 m pc ls rest) q9)
    (kk : ∀ (r : UInt32) (u : S) (t : State) (H1 : Heap) (locs1 : List Loc), t.heap = H1 → s.vm.Alike t.vm → post r u → B u t → H.size ≤ H1.size → (∀ q : Nat, q < H.size → ¬ A1 q → H1[q]? = H[q]?) → va_S A0 H0 H1 locs1 → W p l e R s m args below meth c H1 locs1 (cells + mc) (slots + ms) Q (F0 m (pc + 3) ls (.float r :: rest))) : W p l e R s m args below meth c H locs cells slots Q (F0 m pc ls st0) := by
  intro T hT X
  rcases hr T hT X with ⟨v, st₀, t, T', L, h0, X', hL, e1, e2, ⟨⟨r, u, hv, hp, hb⟩, hF⟩, st⟩ | ⟨q, st₀, t, T', L, E, ce, h0, X', hL, e1, e2, ⟨u, hp, hb, hF⟩, hce, hcv, hcl, st⟩
  · cases hv
    obtain ⟨k1, k2, k3⟩ := vx_keep h0 e1 hS hA hf hL hF
    obtain ⟨t2, a1, b1⟩ := kk r u t T'.heap (locs ++ L) e1.symm (by rw [← e2]; exact X'.warmed.alike) hp hb k1 k2 k3 T' rfl X'
    exact ⟨t2, st t2 a1, b1⟩
  · obtain ⟨k1, k2, k3⟩ := vx_keep h0 e1 hS hAX hf hL hF
    obtain ⟨t2, a1, b1⟩ := kx E ce q u t T'.heap (locs ++ L) e1.symm (by rw [← e2]; exact X'.warmed.alike) hp hb k1 k2 k3 (by rw [e1]; exact hce) hcv hcl T' rfl X'
    exact ⟨t2, st.trans a1, b1⟩
theorem vx_calld {S SX : Type} {post : UInt64 → S → Prop} {px : SX → Prop} {B : S → State → Prop} {BX : String → SX → State → Prop} {AX : Nat → Prop} (hr : vx_Run p l e R s m args below meth c H locs cells slots mc ms (F0 m pc ls st0) rest (va_Qd post B A1 a) (vx_X px BX AX) free) (hS : va_S A0 H0 H locs) (hA : ∀ q, q < H.size → A1 q → A0 q) (hf : ∀ q, free q → A0 q) (hAX : ∀ q, q < H.size → AX q → A0 q)
    (kx : ∀ (E : String) (ce : Cell) (q9 : Addr) (u : SX) (t : State) (H1 : Heap) (locs1 : List Loc), t.heap = H1 → s.vm.Alike t.vm → px u → BX E u t → H.size ≤ H1.size → (∀ q : Nat, q < H.size → ¬ AX q → H1[q]? = H[q]?) → va_S A0 H0 H1 locs1 → H1[q9]? = some ce → ce.vm = .none → s.vm.findClass E = some ce.cls → vx_W p l e R s m args below meth c H1 locs1 (cells + mc) (slots + ms) Q (F0 m pc ls rest) q9)
    (kk : ∀ (r : UInt64) (u : S) (t : State) (H1 : Heap) (locs1 : List Loc), t.heap = H1 → s.vm.Alike t.vm → post r u → B u t → H.size ≤ H1.size → (∀ q : Nat, q < H.size → ¬ A1 q → H1[q]? = H[q]?) → va_S A0 H0 H1 locs1 → W p l e R s m args below meth c H1 locs1 (cells + mc) (slots + ms) Q (F0 m (pc + 3) ls (.double r :: rest))) : W p l e R s m args below meth c H locs cells slots Q (F0 m pc ls st0) := by
  intro T hT X
  rcases hr T hT X with ⟨v, st₀, t, T', L, h0, X', hL, e1, e2, ⟨⟨r, u, hv, hp, hb⟩, hF⟩, st⟩ | ⟨q, st₀, t, T', L, E, ce, h0, X', hL, e1, e2, ⟨u, hp, hb, hF⟩, hce, hcv, hcl, st⟩
  · cases hv
    obtain ⟨k1, k2, k3⟩ := vx_keep h0 e1 hS hA hf hL hF
    obtain ⟨t2, a1, b1⟩ := kk r u t T'.heap (locs ++ L) e1.symm (by rw [← e2]; exact X'.warmed.alike) hp hb k1 k2 k3 T' rfl X'
    exact ⟨t2, st t2 a1, b1⟩
  · obtain ⟨k1, k2, k3⟩ := vx_keep h0 e1 hS hAX hf hL hF
    obtain ⟨t2, a1, b1⟩ := kx E ce q u t T'.heap (locs ++ L) e1.symm (by rw [← e2]; exact X'.warmed.alike) hp hb k1 k2 k3 (by rw [e1]; exact hce) hcv hcl T' rfl X'
    exact ⟨t2, st.trans a1, b1⟩
theorem vx_callv {S SX : Type} {post : S → Prop} {px : SX → Prop} {B : S → State → Prop} {BX : String → SX → State → Prop} {AX : Nat → Prop} (hr : vx_Run p l e R s m args below meth c H locs cells slots mc ms (F0 m pc ls st0) rest (va_Qv post B A1 a) (vx_X px BX AX) free) (hS : va_S A0 H0 H locs) (hA : ∀ q, q < H.size → A1 q → A0 q) (hf : ∀ q, free q → A0 q) (hAX : ∀ q, q < H.size → AX q → A0 q)
    (kx : ∀ (E : String) (ce : Cell) (q9 : Addr) (u : SX) (t : State) (H1 : Heap) (locs1 : List Loc), t.heap = H1 → s.vm.Alike t.vm → px u → BX E u t → H.size ≤ H1.size → (∀ q : Nat, q < H.size → ¬ AX q → H1[q]? = H[q]?) → va_S A0 H0 H1 locs1 → H1[q9]? = some ce → ce.vm = .none → s.vm.findClass E = some ce.cls → vx_W p l e R s m args below meth c H1 locs1 (cells + mc) (slots + ms) Q (F0 m pc ls rest) q9)
    (kk : ∀ (u : S) (t : State) (H1 : Heap) (locs1 : List Loc), t.heap = H1 → s.vm.Alike t.vm → post u → B u t → H.size ≤ H1.size → (∀ q : Nat, q < H.size → ¬ A1 q → H1[q]? = H[q]?) → va_S A0 H0 H1 locs1 → W p l e R s m args below meth c H1 locs1 (cells + mc) (slots + ms) Q (F0 m (pc + 3) ls (rest))) : W p l e R s m args below meth c H locs cells slots Q (F0 m pc ls st0) := by
  intro T hT X
  rcases hr T hT X with ⟨v, st₀, t, T', L, h0, X', hL, e1, e2, ⟨⟨u, hv, hp, hb⟩, hF⟩, st⟩ | ⟨q, st₀, t, T', L, E, ce, h0, X', hL, e1, e2, ⟨u, hp, hb, hF⟩, hce, hcv, hcl, st⟩
  · cases hv
    obtain ⟨k1, k2, k3⟩ := vx_keep h0 e1 hS hA hf hL hF
    obtain ⟨t2, a1, b1⟩ := kk u t T'.heap (locs ++ L) e1.symm (by rw [← e2]; exact X'.warmed.alike) hp hb k1 k2 k3 T' rfl X'
    exact ⟨t2, st t2 a1, b1⟩
  · obtain ⟨k1, k2, k3⟩ := vx_keep h0 e1 hS hAX hf hL hF
    obtain ⟨t2, a1, b1⟩ := kx E ce q u t T'.heap (locs ++ L) e1.symm (by rw [← e2]; exact X'.warmed.alike) hp hb k1 k2 k3 (by rw [e1]; exact hce) hcv hcl T' rfl X'
    exact ⟨t2, st.trans a1, b1⟩
end Rows
section Ends
variable {p : Program} {l : Launch} {e : Env} {R : Room} {s : State} {m : MethodId} {args : Array Value} {below : List Frame} {meth : Method} {c : Code} {H : Heap} {locs : List Loc} {cells slots : Nat} {Q : State → Prop}
variable {mc ms : Nat} {free : Addr → Prop} {A0 A1 : Nat → Prop} {H0 : Heap} {a : Array Value} {ls : Array Slot} {st0 rest : List Value}
variable {Qc : Array Value → State → Outcome → State → Prop} {XC : String → State → State → Prop}
/-- what a body that may throw owes at its end -/
def vx_MQ (below : List Frame) (Qc : Array Value → State → Outcome → State → Prop) (XC : String → State → State → Prop) (a : Array Value) (s : State) (mc ms : Nat) (free : Addr → Prop) : State → Prop := fun t =>
  ∃ o, t.status = .running ∧ Ended t below o ∧ vx_Q Qc XC mc ms free a s o t
theorem vx_ret {g : JFrame} {mc ms : Nat} (k : W p l e R s m args below meth c H locs cells slots (MQ below Qc args s mc ms free) g) : W p l e R s m args below meth c H locs cells slots (vx_MQ below Qc XC args s mc ms free) g := by
  intro T hT X
  obtain ⟨t, a1, o, b1, b2, b3, b4⟩ := k T hT X
  exact ⟨t, a1, o, b1, b2, Or.inl ⟨b3, b4⟩⟩
/-- not caught here: it goes on to the caller -/
theorem vx_widen {g : JFrame} {q : Addr} {k n : Nat} (h1 : cells ≤ k) (h2 : slots ≤ n) (kk : vx_W p l e R s m args below meth c H locs k n Q g q) : vx_W p l e R s m args below meth c H locs cells slots Q g q := fun T hT X => kk T hT (stand_widen X h1 h2)
theorem vx_out {pc : Nat} {E : String} {ce : Cell} {q : Addr} {mc ms : Nat} (hout : ∀ x ∈ c.exceptionTable.toList, covers x pc = false) (hlocks : meth.locks = false) (hcell : H[q]? = some ce) (hv : ce.vm = .none) (hcl : s.vm.findClass E = some ce.cls)
    (hx : ∀ t : State, t.heap = H → s.vm.Alike t.vm → XC E s t) (hf : ∀ z ∈ locs, free z.base) (hc : cells ≤ mc) (hs : slots ≤ ms) :
    vx_W p l e R s m args below meth c H locs cells slots (vx_MQ below Qc XC args s mc ms free) (F0 m pc ls rest) q := by
  intro T hT X
  obtain ⟨st1, hrun, hend, hW, hsm⟩ := X.leaveThrown q (g := F0 m pc ls rest) rfl rfl rfl hout hlocks
  have hcell9 : (T.setFrames (.throwing q :: below)).heap[q]? = some ce := by
    show T.heap[q]? = some ce
    rw [hT]; exact hcell
  exact ⟨_, st1, .threw q, hrun, hend, Or.inr ⟨q, rfl, E, ce, locs, hx _ hT hW.alike, hcell9, hv, hcl, hW, hsm.mono hc hs, hf⟩⟩
theorem vx_frame {U : State} {k n : Nat} (h : s.sameButNew ({ U with vm := s.vm } : State) locs k n) : s.heap.size ≤ U.heap.size ∧ ∀ q : Nat, q < s.heap.size → (∀ z ∈ locs, z.base ≠ q) → U.heap[q]? = s.heap[q]? := by
  obtain ⟨-, h2, -, -, -, h6⟩ := h
  refine ⟨h2, fun q hq hz => ?_⟩
  obtain ⟨c9, e1, e2, e3, e4⟩ := h6 q _ (Array.getElem?_eq_getElem hq)
  have hs : c9.slots = (s.heap[q]).slots := Array.ext_getElem? fun i => e4 i fun hm => hz _ hm rfl
  have h9 : c9 = s.heap[q] := by
    rw [hs] at e2
    exact e2
  have e5 : U.heap[q]? = some c9 := e1
  rw [e5, h9, Array.getElem?_eq_getElem hq]
/-- the words of a throw but the four that speak of the heap -/
def vx_no (w : Cond) : Bool := decide (w ≠ .isRef (.static Bundle.tN "UNASSIGNED_STACK" Bundle.steD)) && decide (w ≠ .isRef (.static Bundle.tN "SUPPRESSED_SENTINEL" Bundle.listD)) && decide (w ≠ .laysStatic Bundle.tN "UNASSIGNED_STACK" Bundle.steD) && decide (w ≠ .laysStatic Bundle.tN "SUPPRESSED_SENTINEL" Bundle.listD)
def vx_at0 (own : String) (ic : Nat) (X : String) (names : List String) : List Cond := (Bundle.ownAtoms0 own ic X names).filter vx_no
def vx_atS (own : String) (ic : Nat) (X : String) (names : List String) : List Cond := (Bundle.ownAtoms own ic X names).filter vx_no
/-- a word that the tables alone decide, or a good one -/
def vx_ot (w : Cond) : Bool := w.onTables || goodWord w
theorem vx_ot_at {args a' : Array Value} {s U : State} {w : Cond} (hW : s.WarmedH U.vm) (hvm : s.vm = U.vm) (hg : vx_ot w = true) (h : w.before args s = true) : w.before a' U = true := by
  simp only [vx_ot, Bool.or_eq_true] at hg
  rcases hg with hg | hg
  · exact va_tabs hg hvm h
  · exact word_at hW (good_of_word hg) h
/-- a list's words: the good ones out of the method's own list, the others by premises of their own -/
theorem vx_hat {args : Array Value} {s : State} {L B : List Cond} (h1 : ∀ w ∈ L.filter goodWord, w.before args s = true) (h2 : ∀ w ∈ L.filter (fun w => !goodWord w), w ∈ B) (h3 : ∀ w ∈ B, w.before args s = true) : ∀ w ∈ L, w.before args s = true := by
  intro w hw
  by_cases g : goodWord w = true
  · exact h1 w (List.mem_filter.mpr ⟨hw, g⟩)
  · refine h3 w (h2 w (List.mem_filter.mpr ⟨hw, ?_⟩))
    show (!goodWord w) = true
    cases hgw : goodWord w
    · rfl
    · exact absurd hgw g
theorem vx_c {args : Array Value} {s : State} {w : Cond} {B : List Cond} (h : w.before args s = true) (t : ∀ w ∈ B, w.before args s = true) : ∀ w' ∈ w :: B, w'.before args s = true := fun w' h' => (List.mem_cons.mp h').elim (fun e => by rw [e]; exact h) (t w')
theorem vx_n {args : Array Value} {s : State} : ∀ w ∈ ([] : List Cond), w.before args s = true := fun _ h => nomatch h
theorem vx_own {args : Array Value} {s : State} {L : List Cond} (h1 : ∀ w ∈ L.filter vx_no, w.before args s = true)
    (hU : (Cond.isRef (.static Bundle.tN "UNASSIGNED_STACK" Bundle.steD)).before args s = true) (hN : (Cond.isRef (.static Bundle.tN "SUPPRESSED_SENTINEL" Bundle.listD)).before args s = true)
    (lU : (Cond.laysStatic Bundle.tN "UNASSIGNED_STACK" Bundle.steD).before args s = true) (lN : (Cond.laysStatic Bundle.tN "SUPPRESSED_SENTINEL" Bundle.listD).before args s = true) : ∀ w ∈ L, w.before args s = true := by
  intro w hw
  by_cases e1 : w = .isRef (.static Bundle.tN "UNASSIGNED_STACK" Bundle.steD)
  · rw [e1]; exact hU
  · by_cases e2 : w = .isRef (.static Bundle.tN "SUPPRESSED_SENTINEL" Bundle.listD)
    · rw [e2]; exact hN
    · by_cases e3 : w = .laysStatic Bundle.tN "UNASSIGNED_STACK" Bundle.steD
      · rw [e3]; exact lU
      · by_cases e4 : w = .laysStatic Bundle.tN "SUPPRESSED_SENTINEL" Bundle.listD
        · rw [e4]; exact lN
        · exact h1 w (List.mem_filter.mpr ⟨hw, by unfold vx_no; rw [decide_eq_true e1, decide_eq_true e2, decide_eq_true e3, decide_eq_true e4]; rfl⟩)
/-- where a static field lies, its class's statics cell in H -/
def vx_L (C n d : String) (A : Nat → Prop) (U : State) (H : Heap) : Prop := ∃ (c : ClassId) (k : Class) (i : Nat) (f : Field) (a : Nat) (cell : Cell), U.vm.findClass C = some c ∧ U.fieldFound? C n d = some (c, k, i, f) ∧ f.isStatic = true ∧ k.statics = some a ∧ H[a]? = some cell ∧ cell.vm.isStatics = true ∧ cell.cls = c ∧ f.slot < cell.slots.size ∧ k.staticTypes[f.slot]? = some f.type ∧ ¬ A a
theorem vx_L.moved {C n d : String} {A : Nat → Prop} {u U : State} {H : Heap} (hvm : u.vm.Alike U.vm) (h : vx_L C n d A u H) : vx_L C n d A U H := by
  obtain ⟨c, k, i, f, a, cell, h1, h2, h3, h4, h5, h6, h7, h8, h9, h10⟩ := h
  obtain ⟨k', hi', he⟩ := State.fieldFound?_setVm hvm h2
  exact ⟨c, k', i, f, a, cell, by rw [hvm.findClass]; exact h1, hi', h3, by rw [he]; exact h4, h5, h6, h7, h8, by rw [he]; exact h9, h10⟩
theorem vx_L.kept {C n d : String} {A : Nat → Prop} {U : State} {H H1 : Heap} (h : vx_L C n d A U H) (hq : ∀ a : Nat, a < H.size → ¬ A a → H1[a]? = H[a]?) : vx_L C n d A U H1 := by
  obtain ⟨c, k, i, f, a, cell, h1, h2, h3, h4, h5, h6, h7, h8, h9, h10⟩ := h
  exact ⟨c, k, i, f, a, cell, h1, h2, h3, h4, by rw [hq a (Array.getElem?_eq_some_iff.mp h5).1 h10]; exact h5, h6, h7, h8, h9, h10⟩
theorem vx_L.narrow {C n d : String} {A B : Nat → Prop} {U : State} {H : Heap} (h : vx_L C n d A U H) (hAB : ∀ q, B q → A q) : vx_L C n d B U H := by
  obtain ⟨c, k, i, f, a, cell, h1, h2, h3, h4, h5, h6, h7, h8, h9, h10⟩ := h
  exact ⟨c, k, i, f, a, cell, h1, h2, h3, h4, h5, h6, h7, h8, h9, fun z => h10 (hAB _ z)⟩
theorem vx_L.word {C n d : String} {A : Nat → Prop} {s : State} {args : Array Value} (h : vx_L C n d A s s.heap) : (Cond.laysStatic C n d).before args s = true := by
  obtain ⟨c, k, i, f, a, cell, h1, h2, h3, h4, h5, h6, h7, h8, h9, -⟩ := h
  show (Cond.laysStatic C n d).holds args s none s [] = true
  exact Cond.laysStatic_of h1 h2 h3 h4 h5 h6 h7 h8 h9
/-- .. and what it holds: null or some reference -/
def vx_Zq (C n d : String) (A : Nat → Prop) (U : State) (H : Heap) : Prop := va_Zq C n d A U H ∧ vx_L C n d A U H
theorem vx_Zq.moved {C n d : String} {A : Nat → Prop} {u U : State} {H : Heap} (hvm : u.vm.Alike U.vm) (h : vx_Zq C n d A u H) : vx_Zq C n d A U H := ⟨va_Zq.moved hvm h.1, vx_L.moved hvm h.2⟩
theorem vx_Zq.kept {C n d : String} {A : Nat → Prop} {U : State} {H H1 : Heap} (h : vx_Zq C n d A U H) (hq : ∀ a : Nat, a < H.size → ¬ A a → H1[a]? = H[a]?) : vx_Zq C n d A U H1 := ⟨va_Zq.kept h.1 hq, vx_L.kept h.2 hq⟩
theorem vx_Zq.narrow {C n d : String} {A B : Nat → Prop} {U : State} {H : Heap} (h : vx_Zq C n d A U H) (hAB : ∀ q, B q → A q) : vx_Zq C n d B U H := ⟨va_Zq.narrow h.1 hAB, vx_L.narrow h.2 hAB⟩
theorem vx_Zqof {args : Array Value} {s : State} {C n d : String} {A : Nat → Prop} (hl : (Cond.laysStatic C n d).before args s = true) (hini : (Cond.initialized C).before args s = true) (h : (Cond.isRef (.static C n d)).before args s = true) (hA : ∀ a : Nat, a < s.heap.size → ¬ A a) : vx_Zq C n d A s s.heap := by
  refine ⟨va_Zqof hl hini h hA, ?_⟩
  obtain ⟨c, k, i, f, a, cell, h1, h2, h3, h4, h5, h6, h7, h8, h9⟩ := Cond.laysStatic_spec hl
  exact ⟨c, k, i, f, a, cell, h1, h2, h3, h4, h5, h6, h7, h8, h9, hA a (Array.getElem?_eq_some_iff.mp h5).1⟩
theorem vx_isRef {C n d : String} {v : Value} {A : Nat → Prop} {s : State} {args : Array Value} (h : va_Z C n d v A s s.heap) (hv : v.isRef = true) : (Cond.isRef (.static C n d)).before args s = true := by
  obtain ⟨cf, kf, fi, f, a, cell, h1, h2, h3, h4, h5, h6, h7, -⟩ := h
  have he : (Term.static C n d).eval args s none [] s = some v := by
    simp [Term.eval, State.fieldNamed?, h1, h2, h4, h5, h6, h7]
  simp only [Cond.before, Cond.holds, Cond.value, he]
  cases v <;> simp_all [Value.isRef]
theorem vx_isRefq {C n d : String} {A : Nat → Prop} {s : State} {args : Array Value} (h : va_Zq C n d A s s.heap) : (Cond.isRef (.static C n d)).before args s = true := by
  rcases h with h | ⟨t, h⟩
  · exact vx_isRef h rfl
  · exact vx_isRef h rfl
/-- the same frame, seen from here: as if the method were called anew in this heap -/
theorem vx_rebase {T : State} (X : Stand p l e R s m args below meth c T locs cells slots) {R' : Room} (hf : R'.frames ≤ R.frames) (hl : R'.locals ≤ R.locals) (hc : cells + R'.cells ≤ R.cells) (hs : slots + R'.slots ≤ R.slots) :
    Stand p l e R' ((T.setVm s.vm).setFrames (.invoking m args :: below)) m args below meth c T [] 0 0 := by
  have htop : (T.setVm s.vm).topJava?.isSome := X.here.top
  have hF : ((T.setVm s.vm).setFrames (.invoking m args :: below)).frames = .invoking m args :: below := State.frames_setFrames _ (State.cur_lt_of_top htop)
  obtain ⟨g₀, hg0⟩ := Option.isSome_iff_exists.mp htop
  obtain ⟨r, hr⟩ := State.topJava?_eq_some.mp hg0
  have hl9 : e.platform.stackLimits (T.setVm s.vm).me = e.platform.stackLimits s.me := X.limits
  have hb9 : (T.setVm s.vm).me.stackBytes = s.me.stackBytes := X.bytes
  refine ⟨X.admits, X.cas, X.clock, hF, ?_, X.hears, X.method, X.code, X.here, X.tail, X.warmed, ?_, ?_, ?_⟩
  · have h := X.room
    have hU : ((T.setVm s.vm).setFrames (.invoking m args :: below)).localsInUse = s.localsInUse := by
      rw [State.localsInUse_invoking hF (meth := meth) (c := c) X.method X.code, State.localsInUse_invoking X.frames X.method X.code]
    simp only [State.hasRoom, Bool.and_eq_true, decide_eq_true_eq] at h ⊢
    obtain ⟨⟨⟨⟨h1, h2, h3, h4, h5, h6⟩, h7⟩, h8⟩, h9⟩ := h
    rw [X.frames, List.length_cons] at h2 h3
    have q1 := X.heapSize
    have q2 := X.used
    simp only [hF, hU, List.length_cons, State.stackLimits_setFrames, State.stackBytes_setFrames, hl9, hb9]
    refine ⟨⟨⟨⟨by omega, by omega, by omega, by omega, by omega, h6⟩, ?_⟩, ?_⟩, X.book⟩
    · show T.heap.size + R'.cells ≤ e.platform.maxCells
      omega
    · show T.slotsUsed + R'.slots ≤ e.platform.maxSlots
      omega
  · rw [State.stackLimits_setFrames]; rfl
  · rw [State.stackBytes_setFrames]; rfl
  · refine ⟨?_, Nat.le_refl _, Nat.le_refl _, ?_, ?_, fun a c9 h9 => ⟨c9, h9, rfl, rfl, fun _ _ => rfl⟩⟩
    · obtain ⟨t, ht, -⟩ := State.frames_cons hr
      show T.setVm s.vm = { ((T.setVm s.vm).setFrames (.invoking m args :: below)).setFrames (T.setVm s.vm).frames with heap := T.heap, slotsUsed := T.slotsUsed }
      rw [State.setFrames_setFrames, State.setFrames_self ht]
      rfl
    · show T.slotsUsed = T.slotsUsed + ((T.heap.toList.drop T.heap.size).map (·.slots.size)).sum
      rw [List.drop_eq_nil_of_le (Nat.le_of_eq Array.length_toList)]
      rfl
    · show ((T.heap.toList.drop T.heap.size).map (·.slots.size)).sum ≤ 0
      rw [List.drop_eq_nil_of_le (Nat.le_of_eq Array.length_toList)]
      exact Nat.le_refl _
/-- 'throw new E()': new; dup; invokespecial; athrow -/
theorem vx_throw0 {cc : ByteArray} {pc : Nat} (hexec : p.tables.exec = Jvm.exec) (hb : c.code = cc) (hl : l.stackTraces = false) {own cls : String} {names : List String} {ik ic mc ms : Nat} {A : Nat → Prop}
    (hown : s.vm.findClass own = some m.cls) (hcls : Bundle.fit cls = true) (hnames : ∀ n ∈ names, Bundle.fit n = true)
    (hk : (Cond.classLink own ik cls).before args s = true) (hini : (Cond.initialized cls).before args s = true) (hat : ∀ w ∈ vx_at0 own ic cls names, w.before args s = true)
    (hgood : ∀ w ∈ Cond.classLink own ik cls :: Cond.initialized cls :: vx_at0 own ic cls names, vx_ot w = true)
    (hU : vx_Zq Bundle.tN "UNASSIGNED_STACK" Bundle.steD A s s.heap) (hN : vx_Zq Bundle.tN "SUPPRESSED_SENTINEL" Bundle.listD A s s.heap) (hS : va_S A s.heap H locs) (hsize : ls.size = c.maxLocals)
    (d0 : decode cc pc = .ok (.new ik, 3)) (d3 : decode cc (pc + 3) = .ok (.dup, 1)) (d4 : decode cc (pc + 4) = .ok (.invokespecial ic, 3)) (d7 : decode cc (pc + 7) = .ok (.athrow, 1))
    (hout : ∀ x ∈ c.exceptionTable.toList, covers x (pc + 7) = false)
    (hRframes : names.length + 3 < R.frames) (hRlocals : (rest.map fun v => v.category).sum + (13 * (names.length + 1) + 42) ≤ R.locals) (hRcells : cells + 1 ≤ R.cells) (hRslots : slots + 6 ≤ R.slots) (hlocks : meth.locks = false)
    (hx : ∀ t : State, s.vm.Alike t.vm → H.size ≤ t.heap.size → (∀ q : Nat, q < H.size → t.heap[q]? = H[q]?) → XC cls s t)
    (hf : ∀ z ∈ locs, free z.base) (hc : cells + 1 ≤ mc) (hs : slots + 6 ≤ ms) :
    W p l e R s m args below meth c H locs cells slots (vx_MQ below Qc XC args s mc ms free) (F0 m pc ls rest) := by
  intro T hT X
  have htr : e.platform.stackTraces = false := (show e.platform.stackTraces = l.stackTraces by rw [X.admits.platform]).trans hl
  have Y := vx_rebase X (R' := { frames := R.frames, locals := R.locals, cells := 1, slots := 6 }) (Nat.le_refl _) (Nat.le_refl _) hRcells hRslots
  obtain ⟨s', hA⟩ : ∃ z, z = (T.setVm s.vm).setFrames (.invoking m args :: below) := ⟨_, rfl⟩
  rw [← hA] at Y
  have hvm : s'.vm = s.vm := by rw [hA]; rfl
  have hhp : s'.heap = H := by rw [hA]; exact hT
  have hW0 : s.WarmedH s'.vm := by rw [hvm]; exact State.WarmedH.refl s
  have hat' : ∀ w ∈ vx_at0 own ic cls names, w.before args s' = true := fun w hw => vx_ot_at hW0 hvm.symm (hgood w (List.mem_cons_of_mem _ (List.mem_cons_of_mem _ hw))) (hat w hw)
  have hk' : (Cond.classLink own ik cls).before args s' = true := vx_ot_at hW0 hvm.symm (hgood _ List.mem_cons_self) hk
  have hini' : (Cond.initialized cls).before args s' = true := vx_ot_at hW0 hvm.symm (hgood _ (List.mem_cons_of_mem _ List.mem_cons_self)) hini
  have hU' : vx_Zq Bundle.tN "UNASSIGNED_STACK" Bundle.steD A s' s'.heap := by rw [hhp]; exact vx_Zq.moved hW0.alike (hU.kept hS.2.1)
  have hN' : vx_Zq Bundle.tN "SUPPRESSED_SENTINEL" Bundle.listD A s' s'.heap := by rw [hhp]; exact vx_Zq.moved hW0.alike (hN.kept hS.2.1)
  have h : ∀ w ∈ Bundle.ownAtoms0 own ic cls names, w.before args s' = true := vx_own hat' (vx_isRefq hU'.1) (vx_isRefq hN'.1) hU'.2.word hN'.2.word
  have hown' : s'.vm.findClass own = some m.cls := by rw [hvm]; exact hown
  have hins : (Cond.instantiable cls 6).before args s' = true := h _ (by simp [Bundle.ownAtoms0])
  obtain ⟨vm₁, cX, kX, hfX, hkX, -, -, X₁, st1⟩ := Y.newCold hexec (own := own) (C := cls) (index := ik) (n := 6) hown' hk' hins hini'
    (g := F0 m pc ls rest) rfl (by rw [hb]; exact d0) (Nat.le_refl _) (Nat.le_refl _)
  generalize hT1 : (T.setVm vm₁).pushCell { cls := cX, slots := kX.instanceTypes.map defaultValue, vm := .none } = T1 at X₁ st1
  have hcat : (Value.ref T.heap.size).category = 1 := rfl
  have hcellA : T1.heap[T.heap.size]? = some (freshCell cX kX) := by rw [← hT1]; exact State.heap_pushCell_size _ _
  have d3' : decode c.code (pc + 3) = .ok (.dup, 1) := by rw [hb]; exact d3
  obtain ⟨U, hsteps, hrun, hend, hW, hsame, ce, hce, hO⟩ := X₁.ctorThrow0 hexec htr (own := own) (cls := cls) (names := names) (ic := ic) hown' hcls hnames h (fun x hx => nomatch hx) hfX hkX hcellA (by rw [hhp, hT]; exact Nat.le_refl _)
    (g := { method := m, pc := pc + 4, locals := ls, stack := .ref T.heap.size :: .ref T.heap.size :: rest, locked := none }) rfl hsize rfl rfl (rest := rest) rfl
    (by rw [hb]; exact d4) (by rw [hb]; exact d7) hout hRframes (by simp only [List.map_cons, List.sum_cons, hcat]; omega) hlocks
  obtain ⟨f1, f2⟩ := vx_frame hsame
  rw [hhp] at f1 f2
  have hWs : s.WarmedH U.vm := State.WarmedH.trans hW0 hW
  have hcl : s.vm.findClass cls = some ce.cls := by
    have h9 := hO.cls
    rw [hvm] at h9
    exact h9
  have hall : s.sameButNew ({ U with vm := s.vm } : State) locs mc ms := by
    subst hA
    obtain ⟨e1, e2⟩ := hsame
    rw [State.setFrames_setFrames] at e1
    have h2 : (T.setVm s.vm).sameButNew ({ U with vm := s.vm } : State) [] (0 + 1) (0 + 6) := ⟨e1, e2⟩
    have h3 := X.same.trans h2
    rw [List.append_nil] at h3
    exact h3.mono hc hs
  refine ⟨U, ?_, .threw T.heap.size, hrun, hend, Or.inr ⟨T.heap.size, rfl, cls, ce, locs, hx U hWs.alike f1 (fun q hq => f2 q hq (fun z hz => nomatch hz)), hce, hO.vm, hcl, hWs, hall, hf⟩⟩
  refine st1 _ ?_
  show Steps p.tables e below (T1.setTop { method := m, pc := pc + 3, locals := ls, stack := .ref T.heap.size :: rest, locked := none }) _
  jvm_step X₁.here [X₁.here.top, hexec, d3', Value.category]
  exact hsteps
/-- 'throw new E("text")': new; dup; ldc; invokespecial; athrow -/
theorem vx_throwS {cc : ByteArray} {pc : Nat} (hexec : p.tables.exec = Jvm.exec) (hb : c.code = cc) (hl : l.stackTraces = false) {own cls text : String} {names : List String} {ik is ic mc ms sa : Nat} {A : Nat → Prop}
    (hown : s.vm.findClass own = some m.cls) (hcls : Bundle.fit cls = true) (hnames : ∀ n ∈ names, Bundle.fit n = true)
    (hk : (Cond.classLink own ik cls).before args s = true) (hini : (Cond.initialized cls).before args s = true) (hstr : vk_R own is text sa s) (hat : ∀ w ∈ vx_atS own ic cls names, w.before args s = true)
    (hgood : ∀ w ∈ Cond.classLink own ik cls :: Cond.initialized cls :: vx_atS own ic cls names, vx_ot w = true)
    (hU : vx_Zq Bundle.tN "UNASSIGNED_STACK" Bundle.steD A s s.heap) (hN : vx_Zq Bundle.tN "SUPPRESSED_SENTINEL" Bundle.listD A s s.heap) (hS : va_S A s.heap H locs) (hsize : ls.size = c.maxLocals)
    (d0 : decode cc pc = .ok (.new ik, 3)) (d3 : decode cc (pc + 3) = .ok (.dup, 1)) (d4 : decode cc (pc + 4) = .ok (.ldc is, 2)) (d6 : decode cc (pc + 6) = .ok (.invokespecial ic, 3)) (d9 : decode cc (pc + 9) = .ok (.athrow, 1))
    (hout : ∀ x ∈ c.exceptionTable.toList, covers x (pc + 9) = false)
    (hRframes : names.length + 3 < R.frames) (hRlocals : (rest.map fun v => v.category).sum + (13 * (names.length + 1) + 43) ≤ R.locals) (hRcells : cells + 1 ≤ R.cells) (hRslots : slots + 6 ≤ R.slots) (hlocks : meth.locks = false)
    (hx : ∀ t : State, s.vm.Alike t.vm → H.size ≤ t.heap.size → (∀ q : Nat, q < H.size → t.heap[q]? = H[q]?) → XC cls s t)
    (hf : ∀ z ∈ locs, free z.base) (hc : cells + 1 ≤ mc) (hs : slots + 6 ≤ ms) :
    W p l e R s m args below meth c H locs cells slots (vx_MQ below Qc XC args s mc ms free) (F0 m pc ls rest) := by
  intro T hT X
  have htr : e.platform.stackTraces = false := (show e.platform.stackTraces = l.stackTraces by rw [X.admits.platform]).trans hl
  have Y := vx_rebase X (R' := { frames := R.frames, locals := R.locals, cells := 1, slots := 6 }) (Nat.le_refl _) (Nat.le_refl _) hRcells hRslots
  obtain ⟨s', hA⟩ : ∃ z, z = (T.setVm s.vm).setFrames (.invoking m args :: below) := ⟨_, rfl⟩
  rw [← hA] at Y
  have hvm : s'.vm = s.vm := by rw [hA]; rfl
  have hhp : s'.heap = H := by rw [hA]; exact hT
  have hW0 : s.WarmedH s'.vm := by rw [hvm]; exact State.WarmedH.refl s
  have hat' : ∀ w ∈ vx_atS own ic cls names, w.before args s' = true := fun w hw => vx_ot_at hW0 hvm.symm (hgood w (List.mem_cons_of_mem _ (List.mem_cons_of_mem _ hw))) (hat w hw)
  have hk' : (Cond.classLink own ik cls).before args s' = true := vx_ot_at hW0 hvm.symm (hgood _ List.mem_cons_self) hk
  have hini' : (Cond.initialized cls).before args s' = true := vx_ot_at hW0 hvm.symm (hgood _ (List.mem_cons_of_mem _ List.mem_cons_self)) hini
  have hU' : vx_Zq Bundle.tN "UNASSIGNED_STACK" Bundle.steD A s' s'.heap := by rw [hhp]; exact vx_Zq.moved hW0.alike (hU.kept hS.2.1)
  have hN' : vx_Zq Bundle.tN "SUPPRESSED_SENTINEL" Bundle.listD A s' s'.heap := by rw [hhp]; exact vx_Zq.moved hW0.alike (hN.kept hS.2.1)
  have h : ∀ w ∈ Bundle.ownAtoms own ic cls names, w.before args s' = true := vx_own hat' (vx_isRefq hU'.1) (vx_isRefq hN'.1) hU'.2.word hN'.2.word
  have hown' : s'.vm.findClass own = some m.cls := by rw [hvm]; exact hown
  have hins : (Cond.instantiable cls 6).before args s' = true := h _ (by simp [Bundle.ownAtoms])
  obtain ⟨vm₁, cX, kX, hfX, hkX, -, -, X₁, st1⟩ := Y.newCold hexec (own := own) (C := cls) (index := ik) (n := 6) hown' hk' hins hini'
    (g := F0 m pc ls rest) rfl (by rw [hb]; exact d0) (Nat.le_refl _) (Nat.le_refl _)
  generalize hT1 : (T.setVm vm₁).pushCell { cls := cX, slots := kX.instanceTypes.map defaultValue, vm := .none } = T1 at X₁ st1
  have hcat : (Value.ref T.heap.size).category = 1 := rfl
  have hcellA : T1.heap[T.heap.size]? = some (freshCell cX kX) := by rw [← hT1]; exact State.heap_pushCell_size _ _
  have d3' : decode c.code (pc + 3) = .ok (.dup, 1) := by rw [hb]; exact d3
  have d4' : decode c.code (pc + 4) = .ok (.ldc is, 2) := by rw [hb]; exact d4
  have hstr' : vk_R own is text sa s' := vk_R.warm hW0 hstr
  obtain ⟨U, hsteps, hrun, hend, hW, hsame, ce, hce, hO⟩ := X₁.ctorThrowS hexec htr (own := own) (cls := cls) (names := names) (ic := ic) hown' hcls hnames h (fun x hx => nomatch hx) hfX hkX hcellA (by rw [hhp, hT]; exact Nat.le_refl _) (msg := .ref sa) rfl
    (g := { method := m, pc := pc + 6, locals := ls, stack := .ref sa :: .ref T.heap.size :: .ref T.heap.size :: rest, locked := none }) rfl hsize rfl rfl (rest := rest) rfl
    (by rw [hb]; exact d6) (by rw [hb]; exact d9) hout hRframes (by simp only [List.map_cons, List.sum_cons, hcat]; omega) hlocks
  obtain ⟨f1, f2⟩ := vx_frame hsame
  rw [hhp] at f1 f2
  have hWs : s.WarmedH U.vm := State.WarmedH.trans hW0 hW
  have hcl : s.vm.findClass cls = some ce.cls := by
    have h9 := hO.cls
    rw [hvm] at h9
    exact h9
  have hall : s.sameButNew ({ U with vm := s.vm } : State) locs mc ms := by
    subst hA
    obtain ⟨e1, e2⟩ := hsame
    rw [State.setFrames_setFrames] at e1
    have h2 : (T.setVm s.vm).sameButNew ({ U with vm := s.vm } : State) [] (0 + 1) (0 + 6) := ⟨e1, e2⟩
    have h3 := X.same.trans h2
    rw [List.append_nil] at h3
    exact h3.mono hc hs
  refine ⟨U, ?_, .threw T.heap.size, hrun, hend, Or.inr ⟨T.heap.size, rfl, cls, ce, locs, hx U hWs.alike f1 (fun q hq => f2 q hq (fun z hz => nomatch hz)), hce, hO.vm, hcl, hWs, hall, hf⟩⟩
  refine st1 _ ?_
  show Steps p.tables e below (T1.setTop { method := m, pc := pc + 3, locals := ls, stack := .ref T.heap.size :: rest, locked := none }) _
  jvm_step X₁.here [X₁.here.top, hexec, d3', Value.category]
  exact X₁.ldcString hexec (own := own) (text := text) (index := is) (a := sa) hown' hstr'.1 hstr'.2
    (g := { method := m, pc := pc + 4, locals := ls, stack := .ref T.heap.size :: .ref T.heap.size :: rest, locked := none }) rfl d4' _ hsteps
/-- 'throw new E("text")', the text by a wide index -/
theorem vx_throwSW {cc : ByteArray} {pc : Nat} (hexec : p.tables.exec = Jvm.exec) (hb : c.code = cc) (hl : l.stackTraces = false) {own cls text : String} {names : List String} {ik is ic mc ms sa : Nat} {A : Nat → Prop}
    (hown : s.vm.findClass own = some m.cls) (hcls : Bundle.fit cls = true) (hnames : ∀ n ∈ names, Bundle.fit n = true)
    (hk : (Cond.classLink own ik cls).before args s = true) (hini : (Cond.initialized cls).before args s = true) (hstr : vk_R own is text sa s) (hat : ∀ w ∈ vx_atS own ic cls names, w.before args s = true)
    (hgood : ∀ w ∈ Cond.classLink own ik cls :: Cond.initialized cls :: vx_atS own ic cls names, vx_ot w = true)
    (hU : vx_Zq Bundle.tN "UNASSIGNED_STACK" Bundle.steD A s s.heap) (hN : vx_Zq Bundle.tN "SUPPRESSED_SENTINEL" Bundle.listD A s s.heap) (hS : va_S A s.heap H locs) (hsize : ls.size = c.maxLocals)
    (d0 : decode cc pc = .ok (.new ik, 3)) (d3 : decode cc (pc + 3) = .ok (.dup, 1)) (d4 : decode cc (pc + 4) = .ok (.ldc_w is, 3)) (d7 : decode cc (pc + 7) = .ok (.invokespecial ic, 3)) (d10 : decode cc (pc + 10) = .ok (.athrow, 1))
    (hout : ∀ x ∈ c.exceptionTable.toList, covers x (pc + 10) = false)
    (hRframes : names.length + 3 < R.frames) (hRlocals : (rest.map fun v => v.category).sum + (13 * (names.length + 1) + 43) ≤ R.locals) (hRcells : cells + 1 ≤ R.cells) (hRslots : slots + 6 ≤ R.slots) (hlocks : meth.locks = false)
    (hx : ∀ t : State, s.vm.Alike t.vm → H.size ≤ t.heap.size → (∀ q : Nat, q < H.size → t.heap[q]? = H[q]?) → XC cls s t)
    (hf : ∀ z ∈ locs, free z.base) (hc : cells + 1 ≤ mc) (hs : slots + 6 ≤ ms) :
    W p l e R s m args below meth c H locs cells slots (vx_MQ below Qc XC args s mc ms free) (F0 m pc ls rest) := by
  intro T hT X
  have htr : e.platform.stackTraces = false := (show e.platform.stackTraces = l.stackTraces by rw [X.admits.platform]).trans hl
  have Y := vx_rebase X (R' := { frames := R.frames, locals := R.locals, cells := 1, slots := 6 }) (Nat.le_refl _) (Nat.le_refl _) hRcells hRslots
  obtain ⟨s', hA⟩ : ∃ z, z = (T.setVm s.vm).setFrames (.invoking m args :: below) := ⟨_, rfl⟩
  rw [← hA] at Y
  have hvm : s'.vm = s.vm := by rw [hA]; rfl
  have hhp : s'.heap = H := by rw [hA]; exact hT
  have hW0 : s.WarmedH s'.vm := by rw [hvm]; exact State.WarmedH.refl s
  have hat' : ∀ w ∈ vx_atS own ic cls names, w.before args s' = true := fun w hw => vx_ot_at hW0 hvm.symm (hgood w (List.mem_cons_of_mem _ (List.mem_cons_of_mem _ hw))) (hat w hw)
  have hk' : (Cond.classLink own ik cls).before args s' = true := vx_ot_at hW0 hvm.symm (hgood _ List.mem_cons_self) hk
  have hini' : (Cond.initialized cls).before args s' = true := vx_ot_at hW0 hvm.symm (hgood _ (List.mem_cons_of_mem _ List.mem_cons_self)) hini
  have hU' : vx_Zq Bundle.tN "UNASSIGNED_STACK" Bundle.steD A s' s'.heap := by rw [hhp]; exact vx_Zq.moved hW0.alike (hU.kept hS.2.1)
  have hN' : vx_Zq Bundle.tN "SUPPRESSED_SENTINEL" Bundle.listD A s' s'.heap := by rw [hhp]; exact vx_Zq.moved hW0.alike (hN.kept hS.2.1)
  have h : ∀ w ∈ Bundle.ownAtoms own ic cls names, w.before args s' = true := vx_own hat' (vx_isRefq hU'.1) (vx_isRefq hN'.1) hU'.2.word hN'.2.word
  have hown' : s'.vm.findClass own = some m.cls := by rw [hvm]; exact hown
  have hins : (Cond.instantiable cls 6).before args s' = true := h _ (by simp [Bundle.ownAtoms])
  obtain ⟨vm₁, cX, kX, hfX, hkX, -, -, X₁, st1⟩ := Y.newCold hexec (own := own) (C := cls) (index := ik) (n := 6) hown' hk' hins hini'
    (g := F0 m pc ls rest) rfl (by rw [hb]; exact d0) (Nat.le_refl _) (Nat.le_refl _)
  generalize hT1 : (T.setVm vm₁).pushCell { cls := cX, slots := kX.instanceTypes.map defaultValue, vm := .none } = T1 at X₁ st1
  have hcat : (Value.ref T.heap.size).category = 1 := rfl
  have hcellA : T1.heap[T.heap.size]? = some (freshCell cX kX) := by rw [← hT1]; exact State.heap_pushCell_size _ _
  have d3' : decode c.code (pc + 3) = .ok (.dup, 1) := by rw [hb]; exact d3
  have d4' : decode c.code (pc + 4) = .ok (.ldc_w is, 3) := by rw [hb]; exact d4
  have hstr' : vk_R own is text sa s' := vk_R.warm hW0 hstr
  obtain ⟨U, hsteps, hrun, hend, hW, hsame, ce, hce, hO⟩ := X₁.ctorThrowS hexec htr (own := own) (cls := cls) (names := names) (ic := ic) hown' hcls hnames h (fun x hx => nomatch hx) hfX hkX hcellA (by rw [hhp, hT]; exact Nat.le_refl _) (msg := .ref sa) rfl
    (g := { method := m, pc := pc + 7, locals := ls, stack := .ref sa :: .ref T.heap.size :: .ref T.heap.size :: rest, locked := none }) rfl hsize rfl rfl (rest := rest) rfl
    (by rw [hb]; exact d7) (by rw [hb]; exact d10) hout hRframes (by simp only [List.map_cons, List.sum_cons, hcat]; omega) hlocks
  obtain ⟨f1, f2⟩ := vx_frame hsame
  rw [hhp] at f1 f2
  have hWs : s.WarmedH U.vm := State.WarmedH.trans hW0 hW
  have hcl : s.vm.findClass cls = some ce.cls := by
    have h9 := hO.cls
    rw [hvm] at h9
    exact h9
  have hall : s.sameButNew ({ U with vm := s.vm } : State) locs mc ms := by
    subst hA
    obtain ⟨e1, e2⟩ := hsame
    rw [State.setFrames_setFrames] at e1
    have h2 : (T.setVm s.vm).sameButNew ({ U with vm := s.vm } : State) [] (0 + 1) (0 + 6) := ⟨e1, e2⟩
    have h3 := X.same.trans h2
    rw [List.append_nil] at h3
    exact h3.mono hc hs
  refine ⟨U, ?_, .threw T.heap.size, hrun, hend, Or.inr ⟨T.heap.size, rfl, cls, ce, locs, hx U hWs.alike f1 (fun q hq => f2 q hq (fun z hz => nomatch hz)), hce, hO.vm, hcl, hWs, hall, hf⟩⟩
  refine st1 _ ?_
  show Steps p.tables e below (T1.setTop { method := m, pc := pc + 3, locals := ls, stack := .ref T.heap.size :: rest, locked := none }) _
  jvm_step X₁.here [X₁.here.top, hexec, d3', Value.category]
  exact X₁.ldcStringW hexec (own := own) (text := text) (index := is) (a := sa) hown' hstr'.1 hstr'.2
    (g := { method := m, pc := pc + 4, locals := ls, stack := .ref T.heap.size :: .ref T.heap.size :: rest, locked := none }) rfl d4' _ hsteps
end Ends
section Bodies
variable {l : Launch}
theorem vx_ofW {y : MethodName} {ws ws' : List Cond} {rm : Room} {Pc : Array Value → State → Prop} {Qc : Array Value → State → Outcome → State → Prop} {XC : String → State → State → Prop} {mc ms : Nat} {free : Addr → Prop} {cc : ByteArray} {maxL : Nat} {ret : Option FieldType}
    (hy : plainName y.cls = true) (hw : ws = Cond.code y cc maxL ret :: ws')
    (body : ∀ p e s m args below meth c s₁, BodyLoose p l y (headSpec ws rm) cc maxL ret e s m args below meth c s₁ → c.maxLocals = maxL → (∀ x ∈ c.exceptionTable.toList, False) → Pc args s →
      W p l e (headSpec ws rm).room s m args below meth c s.heap [] 0 0 (vx_MQ below Qc XC args s mc ms free) (entryFrame m args maxL)) : vx_Met l y ws rm Pc Qc XC mc ms free := by
  refine MetFree.of_bodyS (code := cc) (maxLocals := maxL) (ret := ret) hy ?_ ?_
  · intro args s m h hn
    obtain ⟨meth, c, h1, h2, h3, h4, h5, h6, -, -⟩ := Cond.code_spec hn (atoms_spec (ws := ws) h _ (by rw [hw]; exact List.mem_cons_self))
    exact ⟨meth, c, h1, h2, h3, h4, h5, h6⟩
  · intro p e s m args below meth c s₁ B hml hP _
    have hh0 : s₁.heap = s.heap := by rw [B.state]; rfl
    have ht : ∀ x ∈ c.exceptionTable.toList, False := by
      obtain ⟨meth9, c9, h1, h2, -, -, -, -, h7, -⟩ := Cond.code_spec B.named (atoms_spec (ws := ws) B.pre _ (by rw [hw]; exact List.mem_cons_self))
      cases Option.some.inj (h1.symm.trans B.method)
      cases Option.some.inj (h2.symm.trans (Stand.of_body B).code)
      intro x hx
      rw [Array.isEmpty_iff.mp h7] at hx
      cases hx
    obtain ⟨t, a1, o, b1, b2, b3⟩ := body p e s m args below meth c s₁ B hml ht hP s₁ hh0 (Stand.of_body B)
    exact ⟨t, o, a1, b1, b2, b3⟩
/-- the table of a body with handlers -/
theorem vx_table {p : Program} {x y : MethodName} {S : Spec} {cc bytes : ByteArray} {maxL maxL' : Nat} {ret ret' : Option FieldType} {e : Env} {s s₁ : State} {m : MethodId} {args : Array Value} {below : List Frame} {meth : Method} {c : Code} {hh : List (Nat × Nat × Nat × Nat)}
    (B : BodyLoose p l y S cc maxL ret e s m args below meth c s₁) (h : (Cond.codeWith y bytes maxL' ret' hh).before args s = true) : c.exceptionTable.toList = tableOf hh := by
  obtain ⟨m9, meth9, c9, hn9, h1, h2, -, -, h6, -⟩ := Cond.codeWith_spec h
  cases Option.some.inj (hn9.symm.trans B.named)
  cases Option.some.inj (h1.symm.trans B.method)
  cases Option.some.inj (h2.symm.trans (Stand.of_body B).code)
  rw [← h6, table_eq]
end Bodies
end VXA
/-! ===== END ===== -/
/-! ===== BEGIN a static call of a method with an exception table ===== -/
section VXS
variable {p : Program} {l : Launch} {e : Env} {R : Room} {s : State} {m : MethodId} {args : Array Value} {below : List Frame} {meth : Method} {c : Code} {T : State} {H : Heap} {locs : List Loc} {cells slots : Nat}
abbrev vx_CSW (R : Room) (s : State) (args : Array Value) (own : String) (index : Nat) (y : MethodName) (bytes : ByteArray) (maxL : Nat) (ret : Option FieldType) (hh : List (Nat × Nat × Nat × Nat)) (ws : List Cond) (rm : Room) (mc ms n : Nat) : Prop :=
  (rm.cells = mc ∧ rm.slots = ms ∧ rm.frames + 1 ≤ R.frames ∧ 8 + (maxL + 11) + rm.locals ≤ R.locals ∧ (∀ w ∈ ws, ∀ (a' : Array Value) (U : State), s.WarmedH U.vm → w.before a' U = true) ∧ Cond.codeWith y bytes maxL ret hh ∈ ws) ∧
  (Cond.codeWith y bytes maxL ret hh).before args s = true ∧ (Cond.initialized y.cls).before args s = true ∧ (y.cls ≠ "java/lang/invoke/MethodHandle" ∧ y.cls ≠ "java/lang/invoke/VarHandle") ∧
  (∀ sig, parseMethodDescriptor y.desc = some sig → n = sig.parameters.length) ∧ (Cond.methodLink own index y).before args s = true ∧ (Cond.static y).before args s = true
theorem vx_cwSW {own : String} {index maxL mc ms : Nat} {y : MethodName} {bytes : ByteArray} {ret : Option FieldType} {hh : List (Nat × Nat × Nat × Nat)} {Ts ws ws' : List Cond} {rm : Room} (n : Nat) (ht : ∀ w ∈ Ts, w.before args s = true) (hT : GoodIn Ts (va_wsS own index y ws)) (hw : ws = Cond.codeWith y bytes maxL ret hh :: ws') (hrc : rm.cells = mc) (hrs : rm.slots = ms)
    (hd : y.cls ≠ "java/lang/invoke/MethodHandle" ∧ y.cls ≠ "java/lang/invoke/VarHandle" ∧ (parseMethodDescriptor y.desc).map (fun d => d.parameters.length) = some n) (hR : rm.frames + 1 ≤ R.frames ∧ 8 + (maxL + 11) + rm.locals ≤ R.locals) :
    vx_CSW R s args own index y bytes maxL ret hh ws rm mc ms n := by
  have ok : ∀ w ∈ va_wsS own index y ws, w.before args s = true := fun w h => ht w (hT w h).1
  have hG : GoodIn Ts ws := fun w h => hT w (by unfold va_wsS; exact List.mem_append_right _ h)
  have hc : Cond.codeWith y bytes maxL ret hh ∈ ws := by rw [hw]; exact List.mem_cons_self
  refine ⟨⟨hrc, hrs, hR.1, hR.2, pay_in ht hG, hc⟩, ht _ (hG _ hc).1, ok _ (by simp [va_wsS]), ⟨hd.1, hd.2.1⟩, fun sig h => ?_, ok _ (by simp [va_wsS]), ok _ (by simp [va_wsS])⟩
  have h2 := hd.2.2
  rw [h] at h2
  exact (Option.some.inj h2).symm
theorem vx_callSW (X : Stand p l e R s m args below meth c T locs cells slots) (hexec : p.tables.exec = Jvm.exec) {own : String} {index : Nat} {y : MethodName} {bytes : ByteArray} {maxL : Nat} {ret : Option FieldType} {hh : List (Nat × Nat × Nat × Nat)}
    (hown : s.vm.findClass own = some m.cls) (hlink : (Cond.methodLink own index y).before args s = true) (hstat : (Cond.static y).before args s = true) (hinit : (Cond.initialized y.cls).before args s = true)
    (hcode : (Cond.codeWith y bytes maxL ret hh).before args s = true) (hy : y.cls ≠ "java/lang/invoke/MethodHandle" ∧ y.cls ≠ "java/lang/invoke/VarHandle")
    {W9 : Nat} {Pre : Pt → Array Value → Prop} {Post : Pt → Array Value → Option Value → Pt → Prop} (hK : Back l R p e below s args y 3 W9 Pre Post)
    {g : JFrame} (hg : g.method = m) (hsize : g.locals.size = c.maxLocals) {argsL rest : List Value} (hlen : ∀ sig, parseMethodDescriptor y.desc = some sig → argsL.length = sig.parameters.length)
    (hstack : g.stack = argsL.reverse ++ rest) (hW : 2 * g.monitorRoom + (rest.map fun v => v.category).sum ≤ W9) (hdg : decode c.code g.pc = .ok (.invokestatic index, 3))
    (hpre : ∀ vm₁, s.WarmedH vm₁ → Pre ⟨T.setVm vm₁, locs, cells, slots⟩ argsL.toArray) :
    ∃ (v : Option Value) (vm₁ : Vm) (B : Pt), s.WarmedH vm₁ ∧ Stand p l e R s m args below meth c B.U B.locs B.cells B.slots ∧ Post ⟨T.setVm vm₁, locs, cells, slots⟩ argsL.toArray v B ∧
      ∀ target, Steps p.tables e below (B.U.setTop { g with pc := g.pc + 3, stack := v.toList ++ rest }) target → Steps p.tables e below (T.setTop g) target := by
  obtain ⟨mk, methM, cM, hnamed, hmethM, -, -, -, -, -, -, hsigM⟩ := Cond.codeWith_spec hcode
  have hstatic : methM.isStatic = true := Cond.static_spec hnamed hmethM hstat
  obtain ⟨kP, hkP, -⟩ := className_of_methodNamed hnamed
  have hinitP : kP.init = .initialized := Cond.initialized_spec (findClass_of_methodNamed hnamed) hkP hinit
  obtain ⟨vm₁, X₁, hstep₁⟩ := X.invokestatic hexec hown hlink hnamed hmethM hstatic hkP hinitP hy (g := g) hg (argsL := argsL) (rest := rest) (hlen _ hsigM) hstack hdg
  obtain ⟨v, B, X', hpost, hsteps⟩ := hK m meth c ⟨T.setVm vm₁, locs, cells, slots⟩ { g with stack := rest } (.invokestatic index) mk argsL.toArray X₁ hg hsize hdg hW (X₁.named hnamed) (hpre vm₁ X₁.warmed)
  exact ⟨v, vm₁, B, X₁.warmed, X', hpost, fun target h => hstep₁ _ fun acts => by rw [doInvoke_state]; exact hsteps.trans h⟩
theorem vx_runSW {y : MethodName} {bytes cc : ByteArray} {maxL nL mc ms n index : Nat} {ret : Option FieldType} {hh : List (Nat × Nat × Nat × Nat)} {ws : List Cond} {rm : Room} {Pc : Array Value → State → Prop} {Qc : Array Value → State → Outcome → State → Prop} {free : Addr → Prop} {Ts : List Cond} {own : String} {As rest : List Value} {g : JFrame}
    (S : CallFix p m c cc nL s args Ts own) (hM : Met l y ws rm Pc Qc mc ms free) (cw : vx_CSW R s args own index y bytes maxL ret hh ws rm mc ms n) (hp : PreS s H Pc As)
    (hg : g.method = m) (hn : As.length = n) (hsize : g.locals.size = nL) (hstack : g.stack = As.reverse ++ rest) (hW : 2 * g.monitorRoom + (rest.map fun v => v.category).sum ≤ 8) (hdg : decode cc g.pc = .ok (.invokestatic index, 3)) (hf : cells + mc ≤ R.cells ∧ slots + ms ≤ R.slots) :
    va_Run p l e R s m args below meth c H locs cells slots mc ms g rest (Qc As.toArray) (free) := by
  obtain ⟨⟨hrc, hrs, hfr, hlo, hws, hcw⟩, hcode, hini, hy, hlen, hl, hstt⟩ := cw
  have hK : Back l R p e below s args y 3 8 (PreOf R mc ms Pc) (PostOf Qc mc ms free) := va_backW (hh := hh) (bytes := bytes) (maxL := maxL) (ret := ret) hM hp.1 hrc hrs hfr hlo hws hcw (fun a' U hW => word_at hW (Or.inl (by first | rfl | simp [Cond.onTables, Cond.keeps, Cond.steady])) hini)
  obtain ⟨hx, hb, hml, ho, -⟩ := S
  intro T hT X
  obtain ⟨v, vm₁, ⟨U', l2, c2, s2⟩, hW₁, X', ⟨g', mk, t, L, e1, e2, hq, h1, hL, h2, h3⟩, st⟩ := vx_callSW X hx (hh := hh) (bytes := bytes) (maxL := maxL) (ret := ret) ho hl hstt hini hcode hy hK hg (hsize.trans hml.symm) (argsL := As) (rest := rest) (fun sig h => hn.trans (hlen sig h)) hstack hW (by rw [hb]; exact hdg)
    (fun vm₁ hW₁ => ⟨hf.1, hf.2, hp.2 (T.setVm vm₁) hT hW₁⟩)
  dsimp only [Pt.U, Pt.locs, Pt.cells, Pt.slots] at X' e1 e2 h1 h2 h3 st
  subst h1; subst h2; subst h3
  exact ⟨v, (T.setVm vm₁).calling g' mk As.toArray, t, U', L, hT, X', hL, e1, e2, hq, st⟩
/-- a thing of a world lies in the heap -/
theorem vx_lt {D : va_G} {cl : List vw_C} {ws : va_W} {H1 : Heap} (h : va_P D cl ws H1) {k : Nat} {q : Nat × va_E} (hk : ws[k]? = some q) : q.1 < H1.size := (h k q hk).lt
end VXS
/-! ===== END ===== -/
/-! ===== BEGIN methods with a table of their own: called by a name, returning or throwing ===== -/
section VXH
/-! vx_backW, vx_callVX, vx_callSX, vx_callVW, vx_runVW, vx_runVX, vx_runSX, vx_ofWH follow the same proofs as their sisters above (Free/Laws.lean, Shelf42/LK1.lean); vx_outP calls Shelf42/NT130.lean (outThrough). -/
section
variable {l : Launch} {R : Room} {p : Program} {e : Env} {below : List Frame} {s : State} {sargs : Array Value} {y : MethodName} {len W9 : Nat}
theorem vx_backW {ws : List Cond} {rm : Room} {Pc : Array Value → State → Prop} {Qc : Array Value → State → Outcome → State → Prop} {XC : String → State → State → Prop} {mc ms : Nat} {free : Addr → Prop} {bytes : ByteArray} {maxL : Nat} {ret : Option FieldType} {hh : List (Nat × Nat × Nat × Nat)}
    (hM : vx_Met l y ws rm Pc Qc XC mc ms free) (hblind : FrameBlind Pc) (hrc : rm.cells = mc) (hrs : rm.slots = ms)
    (hframes : rm.frames + 1 ≤ R.frames) (hlocals : W9 + (maxL + 11) + rm.locals ≤ R.locals)
    (hws : ∀ w ∈ ws, ∀ a' U, s.WarmedH U.vm → w.before a' U = true) (hcode : Cond.codeWith y bytes maxL ret hh ∈ ws) (hinit : ∀ a' U, s.WarmedH U.vm → (Cond.initialized y.cls).before a' U = true) :
    vx_Back l R p e below s sargs y len W9 (PreOf R mc ms Pc) (PostOf Qc mc ms free) (vx_Post XC mc ms free) := by
  intro m meth c A g ig mk a X hg hsize hdg hW hn hp
  have h1 : (headSpec ws rm).pre.before a A.U = true := atoms_intro fun w hw => hws w hw _ _ X.warmed
  have h2 : (Cond.codeWith y bytes maxL ret hh).before a A.U = true := hws _ hcode _ _ X.warmed
  have h3 : (Cond.initialized y.cls).before a A.U = true := hinit _ _ X.warmed
  have h4 : A.cells + (headSpec ws rm).room.cells ≤ R.cells := by rw [show (headSpec ws rm).room.cells = mc from hrc]; exact hp.1
  have h5 : A.slots + (headSpec ws rm).room.slots ≤ R.slots := by rw [show (headSpec ws rm).room.slots = ms from hrs]; exact hp.2.1
  have hPc : Pc a (A.U.calling g mk a) := hblind _ _ _ _ hp.2.2
  obtain ⟨U, Ls, c0, s0⟩ := A
  dsimp only [Pt.U, Pt.locs, Pt.cells, Pt.slots] at h1 h2 h3 h4 h5 X hn hPc ⊢
  obtain ⟨m9, methY, cY, hn9, hmY, hcY, -, hlY, -⟩ := Cond.codeWith_spec h2
  cases Option.some.inj (hn9.symm.trans hn)
  obtain ⟨kY, hkY, -⟩ := className_of_methodNamed hn
  have hinitY : kY.init = .initialized := Cond.initialized_spec (findClass_of_methodNamed hn) hkY h3
  have h : At U g.method c below := by rw [hg]; exact X.here
  have hlocals9 : W9 + (maxL + 11) + (headSpec ws rm).room.locals ≤ R.locals := hlocals
  have happ : (headSpec ws rm).appliesLoose y e.platform (U.calling g mk a) = true :=
    Spec.appliesLoose_calling (g := g) h hdg hn hkY hinitY
      (X.room_calling (g := g) (R' := (headSpec ws rm).room) hsize hmY hcY hframes (by rw [hlY]; omega) h4 h5) h1
  obtain ⟨mid, hmid⟩ := h.above
  have hfr : (U.setTop g).frames = (.java g :: mid) ++ below := by rw [State.frames_setTop' g h.top, hmid]; rfl
  obtain ⟨o, s₂, hsteps, -, hend, hq⟩ := Steps.callFree hM p X.admits X.cas X.clock (acts := []) hfr happ hPc trivial
  have hq' : vx_Q Qc XC mc ms free a (U.calling g mk a) o s₂ := hq
  rw [State.frames_setTop' g h.top] at hend
  obtain ⟨g₀, hg0⟩ := Option.isSome_iff_exists.mp h.top
  obtain ⟨r, hr⟩ := State.topJava?_eq_some.mp hg0
  have hr' : (({ U with heap := s₂.heap, slotsUsed := s₂.slotsUsed } : State).setVm s₂.vm).frames = .java g₀ :: r := hr
  rcases hq' with ⟨hqc, L, hfe, hL⟩ | ⟨q, rfl, E, ce, L, hx, hce, hcv, hcl, hW₂, hsm, hL⟩
  · obtain ⟨⟨v, rfl⟩, hW₂, e2, q2, q3, q4, q5, q6⟩ := id hfe
    have e3 : s₂ = ({ (U.calling g mk a).setFrames s₂.frames with heap := s₂.heap, slotsUsed := s₂.slotsUsed } : State).setVm s₂.vm := by
      have : s₂ = ({ s₂ with vm := (U.calling g mk a).vm } : State).setVm s₂.vm := rfl
      rw [e2] at this
      exact this
    obtain ⟨c₂, i₂, len₂, hc₂, hd₂, hf₂⟩ := hend
    have hW' : U.WarmedH s₂.vm := hW₂
    have hcc : c₂ = c := by
      have h1 : s₂.code? g.method = U.code? g.method := by
        rw [State.code?_eq, State.code?_eq, hW'.alike.method?]
      exact Option.some.inj (hc₂.symm.trans (h1.trans h.code))
    subst hcc
    have hlen : len₂ = len := by rw [hdg] at hd₂; cases hd₂; rfl
    subst hlen
    have hs₂ : s₂ = (({ U with heap := s₂.heap, slotsUsed := s₂.slotsUsed } : State).setVm s₂.vm).setTop { g with pc := g.pc + len₂, stack := v.toList ++ g.stack } := by
      refine e3.trans ?_
      rw [hf₂, State.calling_eq h.top, State.setFrames_setFrames, State.setTop_of_frames _ hr', hr]
      rfl
    have hsame : U.sameButNew ({ U with heap := s₂.heap, slotsUsed := s₂.slotsUsed } : State) L mc ms := by
      refine ⟨?_, q2, q3, q4, q5, q6⟩
      obtain ⟨t, ht, -⟩ := State.frames_cons hr
      show ({ U with heap := s₂.heap, slotsUsed := s₂.slotsUsed } : State) = { U.setFrames U.frames with heap := s₂.heap, slotsUsed := s₂.slotsUsed }
      rw [State.setFrames_self ht]
    subst hg
    refine Or.inl ⟨v, ⟨(({ U with heap := s₂.heap, slotsUsed := s₂.slotsUsed } : State).setVm s₂.vm), Ls ++ L, c0 + mc, s0 + ms⟩,
      ⟨X.admits, X.cas, X.clock, X.frames, X.room, X.hears, X.method, X.code, (X.here.setHeapUsed s₂.heap s₂.slotsUsed).setVm hW'.alike, X.tail, State.WarmedH.trans X.warmed hW', X.limits, X.bytes, X.same.trans (hsame.setVm s.vm)⟩,
      ⟨g, mk, s₂, L, rfl, rfl, hqc, rfl, hL, rfl, rfl⟩, ?_⟩
    show Steps p.tables e below _ ((({ U with heap := s₂.heap, slotsUsed := s₂.slotsUsed } : State).setVm s₂.vm).setTop { g with pc := g.pc + len₂, stack := v.toList ++ g.stack })
    rw [← hs₂]
    exact hsteps
  · obtain ⟨e2, q2, q3, q4, q5, q6⟩ := id hsm
    have e3 : s₂ = ({ (U.calling g mk a).setFrames s₂.frames with heap := s₂.heap, slotsUsed := s₂.slotsUsed } : State).setVm s₂.vm := by
      have : s₂ = ({ s₂ with vm := (U.calling g mk a).vm } : State).setVm s₂.vm := rfl
      rw [e2] at this
      exact this
    have hf₂ : s₂.frames = .throwing q :: .java g :: U.frames.tail := hend
    have hW' : U.WarmedH s₂.vm := hW₂
    have hs₂ : s₂ = ((({ U with heap := s₂.heap, slotsUsed := s₂.slotsUsed } : State).setVm s₂.vm).setTop g).pushFrame (.throwing q) := by
      refine e3.trans ?_
      rw [hf₂, State.calling_eq h.top, State.setFrames_setFrames, State.pushFrame, State.frames_setTop _ hr', State.setTop_of_frames _ hr', State.setFrames_setFrames, hr]
      rfl
    have hsame : U.sameButNew ({ U with heap := s₂.heap, slotsUsed := s₂.slotsUsed } : State) L mc ms := by
      refine ⟨?_, q2, q3, q4, q5, q6⟩
      obtain ⟨t, ht, -⟩ := State.frames_cons hr
      show ({ U with heap := s₂.heap, slotsUsed := s₂.slotsUsed } : State) = { U.setFrames U.frames with heap := s₂.heap, slotsUsed := s₂.slotsUsed }
      rw [State.setFrames_self ht]
    subst hg
    refine Or.inr ⟨q, ⟨(({ U with heap := s₂.heap, slotsUsed := s₂.slotsUsed } : State).setVm s₂.vm), Ls ++ L, c0 + mc, s0 + ms⟩,
      ⟨X.admits, X.cas, X.clock, X.frames, X.room, X.hears, X.method, X.code, (X.here.setHeapUsed s₂.heap s₂.slotsUsed).setVm hW'.alike, X.tail, State.WarmedH.trans X.warmed hW', X.limits, X.bytes, X.same.trans (hsame.setVm s.vm)⟩,
      ⟨g, mk, s₂, L, E, ce, rfl, rfl, hx, hce, hcv, hcl, rfl, hL, rfl, rfl⟩, ?_⟩
    show Steps p.tables e below _ (((({ U with heap := s₂.heap, slotsUsed := s₂.slotsUsed } : State).setVm s₂.vm).setTop g).pushFrame (.throwing q))
    rw [← hs₂]
    exact hsteps
end
variable {p : Program} {l : Launch} {e : Env} {R : Room} {s : State} {m : MethodId} {args : Array Value} {below : List Frame} {meth : Method} {c : Code} {T : State} {H : Heap} {locs : List Loc} {cells slots : Nat}
theorem vx_callVX (X : Stand p l e R s m args below meth c T locs cells slots) (hexec : p.tables.exec = Jvm.exec) {own C : String} {index : Nat} {y : MethodName} {bytes : ByteArray} {maxL : Nat} {ret : Option FieldType} {hh : List (Nat × Nat × Nat × Nat)}
    (hown : s.vm.findClass own = some m.cls) (hlink : (Cond.methodLink own index y).before args s = true) (hinst : (Cond.instanceMethod y).before args s = true) (hsel : (Cond.selects C y y).before args s = true)
    (hcode : (Cond.codeWith y bytes maxL ret hh).before args s = true) (hy : y.cls ≠ "java/lang/invoke/MethodHandle" ∧ y.cls ≠ "java/lang/invoke/VarHandle")
    {W9 : Nat} {Pre : Pt → Array Value → Prop} {Post : Pt → Array Value → Option Value → Pt → Prop} {PostX : Pt → Array Value → Addr → Pt → Prop} (hK : vx_Back l R p e below s args y 3 W9 Pre Post PostX)
    {b : Addr} {cellB : Cell} (hcell : T.heap[b]? = some cellB) (hobj : cellB.vm.isStatics = false) (hcls : s.vm.findClass C = some cellB.cls)
    {g : JFrame} (hg : g.method = m) (hsize : g.locals.size = c.maxLocals) {argsL rest : List Value} (hlen : ∀ sig, parseMethodDescriptor y.desc = some sig → argsL.length = sig.parameters.length)
    (hstack : g.stack = argsL.reverse ++ .ref b :: rest) (hW : 2 * g.monitorRoom + (rest.map fun v => v.category).sum ≤ W9) (hdg : decode c.code g.pc = .ok (.invokevirtual index, 3))
    (hpre : ∀ vm₁, s.WarmedH vm₁ → Pre ⟨T.setVm vm₁, locs, cells, slots⟩ (Value.ref b :: argsL).toArray) :
    (∃ (v : Option Value) (vm₁ : Vm) (B : Pt), s.WarmedH vm₁ ∧ Stand p l e R s m args below meth c B.U B.locs B.cells B.slots ∧ Post ⟨T.setVm vm₁, locs, cells, slots⟩ (Value.ref b :: argsL).toArray v B ∧
      ∀ target, Steps p.tables e below (B.U.setTop { g with pc := g.pc + 3, stack := v.toList ++ rest }) target → Steps p.tables e below (T.setTop g) target) ∨
    (∃ (q : Addr) (vm₁ : Vm) (B : Pt), s.WarmedH vm₁ ∧ Stand p l e R s m args below meth c B.U B.locs B.cells B.slots ∧ PostX ⟨T.setVm vm₁, locs, cells, slots⟩ (Value.ref b :: argsL).toArray q B ∧
      Steps p.tables e below (T.setTop g) ((B.U.setTop { g with stack := rest }).pushFrame (.throwing q))) := by
  obtain ⟨mk, methM, hnamed, hmethM, hstM, habM⟩ := Cond.instanceMethod_spec hinst
  obtain ⟨m8, methM', cM, hn8, hmethM', -, -, -, -, -, -, hsigM⟩ := Cond.codeWith_spec hcode
  cases Option.some.inj (hn8.symm.trans hnamed)
  cases hmethM.symm.trans hmethM'
  obtain ⟨c2, r2, m2, q1, q2, q3, q4, kP, hkP, hkPi⟩ := Cond.selects_spec hsel
  cases hcls.symm.trans q1
  cases (State.methodFound?_of_named hnamed hy).symm.trans q2
  cases hnamed.symm.trans q3
  have hselP : selectMethod e.platform s.vm cellB.cls mk = .method mk := by rw [Launch.admits_selectMethod X.admits]; exact q4
  obtain ⟨vm₁, X₁, hstep₁⟩ := X.invokevirtual hexec hown hlink hnamed hmethM hstM hkP hkPi hy (a := b) (cell := cellB) hcell
    (fun z h => by rw [h] at hobj; cases hobj) hselP hmethM habM hkP hkPi (g := g) hg (argsL := argsL) (rest := rest) (hlen _ hsigM) hstack hdg
  rcases hK m meth c ⟨T.setVm vm₁, locs, cells, slots⟩ { g with stack := rest } (.invokevirtual index) mk (Value.ref b :: argsL).toArray X₁ hg hsize hdg hW (X₁.named hnamed) (hpre vm₁ X₁.warmed) with ⟨v, B, X', hpost, hsteps⟩ | ⟨q, B, X', hpost, hsteps⟩
  · exact Or.inl ⟨v, vm₁, B, X₁.warmed, X', hpost, fun target h => hstep₁ _ fun acts => by rw [doInvoke_state]; exact hsteps.trans h⟩
  · exact Or.inr ⟨q, vm₁, B, X₁.warmed, X', hpost, hstep₁ _ fun acts => by rw [doInvoke_state]; exact hsteps⟩
theorem vx_callSX (X : Stand p l e R s m args below meth c T locs cells slots) (hexec : p.tables.exec = Jvm.exec) {own : String} {index : Nat} {y : MethodName} {bytes : ByteArray} {maxL : Nat} {ret : Option FieldType} {hh : List (Nat × Nat × Nat × Nat)}
    (hown : s.vm.findClass own = some m.cls) (hlink : (Cond.methodLink own index y).before args s = true) (hstat : (Cond.static y).before args s = true) (hinit : (Cond.initialized y.cls).before args s = true)
    (hcode : (Cond.codeWith y bytes maxL ret hh).before args s = true) (hy : y.cls ≠ "java/lang/invoke/MethodHandle" ∧ y.cls ≠ "java/lang/invoke/VarHandle")
    {W9 : Nat} {Pre : Pt → Array Value → Prop} {Post : Pt → Array Value → Option Value → Pt → Prop} {PostX : Pt → Array Value → Addr → Pt → Prop} (hK : vx_Back l R p e below s args y 3 W9 Pre Post PostX)
    {g : JFrame} (hg : g.method = m) (hsize : g.locals.size = c.maxLocals) {argsL rest : List Value} (hlen : ∀ sig, parseMethodDescriptor y.desc = some sig → argsL.length = sig.parameters.length)
    (hstack : g.stack = argsL.reverse ++ rest) (hW : 2 * g.monitorRoom + (rest.map fun v => v.category).sum ≤ W9) (hdg : decode c.code g.pc = .ok (.invokestatic index, 3))
    (hpre : ∀ vm₁, s.WarmedH vm₁ → Pre ⟨T.setVm vm₁, locs, cells, slots⟩ argsL.toArray) :
    (∃ (v : Option Value) (vm₁ : Vm) (B : Pt), s.WarmedH vm₁ ∧ Stand p l e R s m args below meth c B.U B.locs B.cells B.slots ∧ Post ⟨T.setVm vm₁, locs, cells, slots⟩ argsL.toArray v B ∧
      ∀ target, Steps p.tables e below (B.U.setTop { g with pc := g.pc + 3, stack := v.toList ++ rest }) target → Steps p.tables e below (T.setTop g) target) ∨
    (∃ (q : Addr) (vm₁ : Vm) (B : Pt), s.WarmedH vm₁ ∧ Stand p l e R s m args below meth c B.U B.locs B.cells B.slots ∧ PostX ⟨T.setVm vm₁, locs, cells, slots⟩ argsL.toArray q B ∧
      Steps p.tables e below (T.setTop g) ((B.U.setTop { g with stack := rest }).pushFrame (.throwing q))) := by
  obtain ⟨mk, methM, cM, hnamed, hmethM, -, -, -, -, -, -, hsigM⟩ := Cond.codeWith_spec hcode
  have hstatic : methM.isStatic = true := Cond.static_spec hnamed hmethM hstat
  obtain ⟨kP, hkP, -⟩ := className_of_methodNamed hnamed
  have hinitP : kP.init = .initialized := Cond.initialized_spec (findClass_of_methodNamed hnamed) hkP hinit
  obtain ⟨vm₁, X₁, hstep₁⟩ := X.invokestatic hexec hown hlink hnamed hmethM hstatic hkP hinitP hy (g := g) hg (argsL := argsL) (rest := rest) (hlen _ hsigM) hstack hdg
  rcases hK m meth c ⟨T.setVm vm₁, locs, cells, slots⟩ { g with stack := rest } (.invokestatic index) mk argsL.toArray X₁ hg hsize hdg hW (X₁.named hnamed) (hpre vm₁ X₁.warmed) with ⟨v, B, X', hpost, hsteps⟩ | ⟨q, B, X', hpost, hsteps⟩
  · exact Or.inl ⟨v, vm₁, B, X₁.warmed, X', hpost, fun target h => hstep₁ _ fun acts => by rw [doInvoke_state]; exact hsteps.trans h⟩
  · exact Or.inr ⟨q, vm₁, B, X₁.warmed, X', hpost, hstep₁ _ fun acts => by rw [doInvoke_state]; exact hsteps⟩
theorem vx_callVW (X : Stand p l e R s m args below meth c T locs cells slots) (hexec : p.tables.exec = Jvm.exec) {own C : String} {index : Nat} {y : MethodName} {bytes : ByteArray} {maxL : Nat} {ret : Option FieldType} {hh : List (Nat × Nat × Nat × Nat)}
    (hown : s.vm.findClass own = some m.cls) (hlink : (Cond.methodLink own index y).before args s = true) (hinst : (Cond.instanceMethod y).before args s = true) (hsel : (Cond.selects C y y).before args s = true)
    (hcode : (Cond.codeWith y bytes maxL ret hh).before args s = true) (hy : y.cls ≠ "java/lang/invoke/MethodHandle" ∧ y.cls ≠ "java/lang/invoke/VarHandle")
    {W9 : Nat} {Pre : Pt → Array Value → Prop} {Post : Pt → Array Value → Option Value → Pt → Prop} (hK : Back l R p e below s args y 3 W9 Pre Post)
    {b : Addr} {cellB : Cell} (hcell : T.heap[b]? = some cellB) (hobj : cellB.vm.isStatics = false) (hcls : s.vm.findClass C = some cellB.cls)
    {g : JFrame} (hg : g.method = m) (hsize : g.locals.size = c.maxLocals) {argsL rest : List Value} (hlen : ∀ sig, parseMethodDescriptor y.desc = some sig → argsL.length = sig.parameters.length)
    (hstack : g.stack = argsL.reverse ++ .ref b :: rest) (hW : 2 * g.monitorRoom + (rest.map fun v => v.category).sum ≤ W9) (hdg : decode c.code g.pc = .ok (.invokevirtual index, 3))
    (hpre : ∀ vm₁, s.WarmedH vm₁ → Pre ⟨T.setVm vm₁, locs, cells, slots⟩ (Value.ref b :: argsL).toArray) :
    ∃ (v : Option Value) (vm₁ : Vm) (B : Pt), s.WarmedH vm₁ ∧ Stand p l e R s m args below meth c B.U B.locs B.cells B.slots ∧ Post ⟨T.setVm vm₁, locs, cells, slots⟩ (Value.ref b :: argsL).toArray v B ∧
      ∀ target, Steps p.tables e below (B.U.setTop { g with pc := g.pc + 3, stack := v.toList ++ rest }) target → Steps p.tables e below (T.setTop g) target := by
  obtain ⟨mk, methM, hnamed, hmethM, hstM, habM⟩ := Cond.instanceMethod_spec hinst
  obtain ⟨m8, methM', cM, hn8, hmethM', -, -, -, -, -, -, hsigM⟩ := Cond.codeWith_spec hcode
  cases Option.some.inj (hn8.symm.trans hnamed)
  cases hmethM.symm.trans hmethM'
  obtain ⟨c2, r2, m2, q1, q2, q3, q4, kP, hkP, hkPi⟩ := Cond.selects_spec hsel
  cases hcls.symm.trans q1
  cases (State.methodFound?_of_named hnamed hy).symm.trans q2
  cases hnamed.symm.trans q3
  have hselP : selectMethod e.platform s.vm cellB.cls mk = .method mk := by rw [Launch.admits_selectMethod X.admits]; exact q4
  obtain ⟨vm₁, X₁, hstep₁⟩ := X.invokevirtual hexec hown hlink hnamed hmethM hstM hkP hkPi hy (a := b) (cell := cellB) hcell
    (fun z h => by rw [h] at hobj; cases hobj) hselP hmethM habM hkP hkPi (g := g) hg (argsL := argsL) (rest := rest) (hlen _ hsigM) hstack hdg
  obtain ⟨v, B, X', hpost, hsteps⟩ := hK m meth c ⟨T.setVm vm₁, locs, cells, slots⟩ { g with stack := rest } (.invokevirtual index) mk (Value.ref b :: argsL).toArray X₁ hg hsize hdg hW (X₁.named hnamed) (hpre vm₁ X₁.warmed)
  exact ⟨v, vm₁, B, X₁.warmed, X', hpost, fun target h => hstep₁ _ fun acts => by rw [doInvoke_state]; exact hsteps.trans h⟩
abbrev vx_CVW (R : Room) (s : State) (args : Array Value) (own C : String) (index : Nat) (y : MethodName) (bytes : ByteArray) (maxL : Nat) (ret : Option FieldType) (hh : List (Nat × Nat × Nat × Nat)) (ws : List Cond) (rm : Room) (mc ms n : Nat) : Prop :=
  (rm.cells = mc ∧ rm.slots = ms ∧ rm.frames + 1 ≤ R.frames ∧ 8 + (maxL + 11) + rm.locals ≤ R.locals ∧ (∀ w ∈ ws, ∀ (a' : Array Value) (U : State), s.WarmedH U.vm → w.before a' U = true) ∧ Cond.codeWith y bytes maxL ret hh ∈ ws) ∧
  (Cond.codeWith y bytes maxL ret hh).before args s = true ∧ (Cond.initialized y.cls).before args s = true ∧ (y.cls ≠ "java/lang/invoke/MethodHandle" ∧ y.cls ≠ "java/lang/invoke/VarHandle") ∧
  (∀ sig, parseMethodDescriptor y.desc = some sig → n = sig.parameters.length) ∧ (Cond.methodLink own index y).before args s = true ∧ (Cond.instanceMethod y).before args s = true ∧ (Cond.selects C y y).before args s = true
theorem vx_cwVW {own C : String} {index maxL mc ms : Nat} {y : MethodName} {bytes : ByteArray} {ret : Option FieldType} {hh : List (Nat × Nat × Nat × Nat)} {Ts ws ws' : List Cond} {rm : Room} (n : Nat) (ht : ∀ w ∈ Ts, w.before args s = true) (hT : GoodIn Ts (wsV own index C y ws)) (hw : ws = Cond.codeWith y bytes maxL ret hh :: ws') (hrc : rm.cells = mc) (hrs : rm.slots = ms)
    (hd : y.cls = C ∧ y.cls ≠ "java/lang/invoke/MethodHandle" ∧ y.cls ≠ "java/lang/invoke/VarHandle" ∧ (parseMethodDescriptor y.desc).map (fun d => d.parameters.length) = some n) (hR : rm.frames + 1 ≤ R.frames ∧ 8 + (maxL + 11) + rm.locals ≤ R.locals) :
    vx_CVW R s args own C index y bytes maxL ret hh ws rm mc ms n := by
  obtain ⟨hC, hd⟩ := hd
  subst hC
  have ok : ∀ w ∈ wsV own index y.cls y ws, w.before args s = true := fun w h => ht w (hT w h).1
  have hG : GoodIn Ts ws := fun w h => hT w (by unfold wsV; exact List.mem_append_right _ h)
  have hc : Cond.codeWith y bytes maxL ret hh ∈ ws := by rw [hw]; exact List.mem_cons_self
  refine ⟨⟨hrc, hrs, hR.1, hR.2, pay_in ht hG, hc⟩, ht _ (hG _ hc).1, ok _ (by simp [wsV]), ⟨hd.1, hd.2.1⟩, fun sig h => ?_, ok _ (by simp [wsV]), ok _ (by simp [wsV]), ok _ (by simp [wsV])⟩
  have h2 := hd.2.2
  rw [h] at h2
  exact (Option.some.inj h2).symm
theorem vx_runVW {y : MethodName} {bytes cc : ByteArray} {maxL nL mc ms n index : Nat} {ret : Option FieldType} {hh : List (Nat × Nat × Nat × Nat)} {ws : List Cond} {rm : Room} {Pc : Array Value → State → Prop} {Qc : Array Value → State → Outcome → State → Prop} {free : Addr → Prop} {Ts : List Cond} {own C : String} {b : Addr} {As rest : List Value} {g : JFrame}
    (S : CallFix p m c cc nL s args Ts own) (hM : Met l y ws rm Pc Qc mc ms free) (cw : vx_CVW R s args own C index y bytes maxL ret hh ws rm mc ms n) (hp : PreV s H C b Pc As)
    (hg : g.method = m) (hn : As.length = n) (hsize : g.locals.size = nL) (hstack : g.stack = As.reverse ++ .ref b :: rest) (hW : 2 * g.monitorRoom + (rest.map fun v => v.category).sum ≤ 8) (hdg : decode cc g.pc = .ok (.invokevirtual index, 3)) (hf : cells + mc ≤ R.cells ∧ slots + ms ≤ R.slots) :
    va_Run p l e R s m args below meth c H locs cells slots mc ms g rest (Qc (Value.ref b :: As).toArray) free := by
  obtain ⟨⟨hrc, hrs, hfr, hlo, hws, hcw⟩, hcode, hini, hy, hlen, hl, hin, hse⟩ := cw
  have hK : Back l R p e below s args y 3 8 (PreOf R mc ms Pc) (PostOf Qc mc ms free) := va_backW (hh := hh) (bytes := bytes) (maxL := maxL) (ret := ret) hM hp.1 hrc hrs hfr hlo hws hcw (fun a' U hW => word_at hW (Or.inl (by first | rfl | simp [Cond.onTables, Cond.keeps, Cond.steady])) hini)
  obtain ⟨hx, hb, hml, ho, -⟩ := S
  obtain ⟨-, ⟨cellB, hcB, hoB, hclB⟩, hPc⟩ := hp
  intro T hT X
  obtain ⟨v, vm₁, ⟨U', l2, c2, s2⟩, hW₁, X', ⟨g', mk, t, L, e1, e2, hq, h1, hL, h2, h3⟩, st⟩ := vx_callVW X hx (C := C) (hh := hh) (bytes := bytes) (maxL := maxL) (ret := ret) ho hl hin hse hcode hy hK (by rw [hT]; exact hcB) hoB hclB hg (hsize.trans hml.symm) (argsL := As) (rest := rest) (fun sig h => hn.trans (hlen sig h)) hstack hW (by rw [hb]; exact hdg)
    (fun vm₁ hW₁ => ⟨hf.1, hf.2, hPc (T.setVm vm₁) hT hW₁⟩)
  dsimp only [Pt.U, Pt.locs, Pt.cells, Pt.slots] at X' e1 e2 h1 h2 h3 st
  subst h1; subst h2; subst h3
  exact ⟨v, (T.setVm vm₁).calling g' mk (Value.ref b :: As).toArray, t, U', L, hT, X', hL, e1, e2, hq, st⟩
section
variable {y : MethodName} {bytes cc : ByteArray} {maxL nL mc ms n index : Nat} {ret : Option FieldType} {ws : List Cond} {rm : Room} {Pc : Array Value → State → Prop} {Qc : Array Value → State → Outcome → State → Prop} {XC : String → State → State → Prop} {free : Addr → Prop} {Ts : List Cond} {own C : String} {b : Addr} {As rest : List Value} {g : JFrame}
theorem vx_runVX {hh : List (Nat × Nat × Nat × Nat)} (S : CallFix p m c cc nL s args Ts own) (hM : vx_Met l y ws rm Pc Qc XC mc ms free) (cw : vx_CVW R s args own C index y bytes maxL ret hh ws rm mc ms n) (hp : PreV s H C b Pc As)
    (hg : g.method = m) (hn : As.length = n) (hsize : g.locals.size = nL) (hstack : g.stack = As.reverse ++ .ref b :: rest) (hW : 2 * g.monitorRoom + (rest.map fun v => v.category).sum ≤ 8) (hdg : decode cc g.pc = .ok (.invokevirtual index, 3)) (hf : cells + mc ≤ R.cells ∧ slots + ms ≤ R.slots) :
    vx_Run p l e R s m args below meth c H locs cells slots mc ms g rest (Qc (Value.ref b :: As).toArray) XC free := by
  obtain ⟨⟨hrc, hrs, hfr, hlo, hws, hcw⟩, hcode, hini, hy, hlen, hl, hin, hse⟩ := cw
  have hK : vx_Back l R p e below s args y 3 8 (PreOf R mc ms Pc) (PostOf Qc mc ms free) (vx_Post XC mc ms free) := vx_backW (hh := hh) (bytes := bytes) (maxL := maxL) (ret := ret) hM hp.1 hrc hrs hfr hlo hws hcw (fun a' U hW => word_at hW (Or.inl (by first | rfl | simp [Cond.onTables, Cond.keeps, Cond.steady])) hini)
  obtain ⟨hx, hb, hml, ho, -⟩ := S
  obtain ⟨-, ⟨cellB, hcB, hoB, hclB⟩, hPc⟩ := hp
  intro T hT X
  rcases vx_callVX X hx (C := C) (hh := hh) (bytes := bytes) (maxL := maxL) (ret := ret) ho hl hin hse hcode hy hK (by rw [hT]; exact hcB) hoB hclB hg (hsize.trans hml.symm) (argsL := As) (rest := rest) (fun sig h => hn.trans (hlen sig h)) hstack hW (by rw [hb]; exact hdg)
    (fun vm₁ hW₁ => ⟨hf.1, hf.2, hPc (T.setVm vm₁) hT hW₁⟩) with ⟨v, vm₁, ⟨U', l2, c2, s2⟩, hW₁, X', ⟨g', mk, t, L, e1, e2, hq, h1, hL, h2, h3⟩, st⟩ | ⟨q, vm₁, ⟨U', l2, c2, s2⟩, hW₁, X', ⟨g', mk, t, L, E, ce, e1, e2, hq, hce, hcv, hcl, h1, hL, h2, h3⟩, st⟩
  · dsimp only [Pt.U, Pt.locs, Pt.cells, Pt.slots] at X' e1 e2 h1 h2 h3 st
    subst h1; subst h2; subst h3
    exact Or.inl ⟨v, (T.setVm vm₁).calling g' mk (Value.ref b :: As).toArray, t, U', L, hT, X', hL, e1, e2, hq, st⟩
  · dsimp only [Pt.U, Pt.locs, Pt.cells, Pt.slots] at X' e1 e2 h1 h2 h3 st hcl
    subst h1; subst h2; subst h3
    exact Or.inr ⟨q, (T.setVm vm₁).calling g' mk (Value.ref b :: As).toArray, t, U', L, E, ce, hT, X', hL, e1, e2, hq, hce, hcv, vx_cls hW₁ hcl, st⟩
theorem vx_runSX {hh : List (Nat × Nat × Nat × Nat)} (S : CallFix p m c cc nL s args Ts own) (hM : vx_Met l y ws rm Pc Qc XC mc ms free) (cw : vx_CSW R s args own index y bytes maxL ret hh ws rm mc ms n) (hp : PreS s H Pc As)
    (hg : g.method = m) (hn : As.length = n) (hsize : g.locals.size = nL) (hstack : g.stack = As.reverse ++ rest) (hW : 2 * g.monitorRoom + (rest.map fun v => v.category).sum ≤ 8) (hdg : decode cc g.pc = .ok (.invokestatic index, 3)) (hf : cells + mc ≤ R.cells ∧ slots + ms ≤ R.slots) :
    vx_Run p l e R s m args below meth c H locs cells slots mc ms g rest (Qc As.toArray) XC free := by
  obtain ⟨⟨hrc, hrs, hfr, hlo, hws, hcw⟩, hcode, hini, hy, hlen, hl, hstt⟩ := cw
  have hK : vx_Back l R p e below s args y 3 8 (PreOf R mc ms Pc) (PostOf Qc mc ms free) (vx_Post XC mc ms free) := vx_backW (hh := hh) (bytes := bytes) (maxL := maxL) (ret := ret) hM hp.1 hrc hrs hfr hlo hws hcw (fun a' U hW => word_at hW (Or.inl (by first | rfl | simp [Cond.onTables, Cond.keeps, Cond.steady])) hini)
  obtain ⟨hx, hb, hml, ho, -⟩ := S
  intro T hT X
  rcases vx_callSX X hx (hh := hh) (bytes := bytes) (maxL := maxL) (ret := ret) ho hl hstt hini hcode hy hK hg (hsize.trans hml.symm) (argsL := As) (rest := rest) (fun sig h => hn.trans (hlen sig h)) hstack hW (by rw [hb]; exact hdg)
    (fun vm₁ hW₁ => ⟨hf.1, hf.2, hp.2 (T.setVm vm₁) hT hW₁⟩) with ⟨v, vm₁, ⟨U', l2, c2, s2⟩, hW₁, X', ⟨g', mk, t, L, e1, e2, hq, h1, hL, h2, h3⟩, st⟩ | ⟨q, vm₁, ⟨U', l2, c2, s2⟩, hW₁, X', ⟨g', mk, t, L, E, ce, e1, e2, hq, hce, hcv, hcl, h1, hL, h2, h3⟩, st⟩
  · dsimp only [Pt.U, Pt.locs, Pt.cells, Pt.slots] at X' e1 e2 h1 h2 h3 st
    subst h1; subst h2; subst h3
    exact Or.inl ⟨v, (T.setVm vm₁).calling g' mk As.toArray, t, U', L, hT, X', hL, e1, e2, hq, st⟩
  · dsimp only [Pt.U, Pt.locs, Pt.cells, Pt.slots] at X' e1 e2 h1 h2 h3 st hcl
    subst h1; subst h2; subst h3
    exact Or.inr ⟨q, (T.setVm vm₁).calling g' mk As.toArray, t, U', L, E, ce, hT, X', hL, e1, e2, hq, hce, hcv, vx_cls hW₁ hcl, st⟩
end
end VXH
theorem vx_ofWH {l : Launch} {y : MethodName} {ws ws' : List Cond} {rm : Room} {Pc : Array Value → State → Prop} {Qc : Array Value → State → Outcome → State → Prop} {XC : String → State → State → Prop} {mc ms : Nat} {free : Addr → Prop} {cc : ByteArray} {maxL : Nat} {ret : Option FieldType} {hh : List (Nat × Nat × Nat × Nat)}
    (hy : plainName y.cls = true) (hw : ws = Cond.codeWith y cc maxL ret hh :: ws')
    (body : ∀ p e s m args below meth c s₁, BodyLoose p l y (headSpec ws rm) cc maxL ret e s m args below meth c s₁ → c.maxLocals = maxL → Pc args s →
      W p l e (headSpec ws rm).room s m args below meth c s.heap [] 0 0 (vx_MQ below Qc XC args s mc ms free) (entryFrame m args maxL)) : vx_Met l y ws rm Pc Qc XC mc ms free := by
  refine MetFree.of_bodyS (code := cc) (maxLocals := maxL) (ret := ret) hy ?_ ?_
  · intro args s m h hn
    obtain ⟨m9, meth, c, hn9, h1, h2, h3, h4, -, h5, h6, -⟩ := Cond.codeWith_spec (atoms_spec (ws := ws) h _ (by rw [hw]; exact List.mem_cons_self))
    cases hn.symm.trans hn9
    exact ⟨meth, c, h1, h2, h3, h4, h5, h6⟩
  · intro p e s m args below meth c s₁ B hml hP _
    have hh0 : s₁.heap = s.heap := by rw [B.state]; rfl
    obtain ⟨t, a1, o, b1, b2, b3⟩ := body p e s m args below meth c s₁ B hml hP s₁ hh0 (Stand.of_body B)
    exact ⟨t, o, a1, b1, b2, b3⟩
/-! ===== END ===== -/
end
section
/-! ===== BEGIN printed: names, fields, word lists, decode rows ===== -/
def RX0 : String := "ShadowWard$Block"
def TX0 : u_T := fun k => match k with
  | 0 => ("ShadowWard$Region", "place", "I", true)
  | 1 => ("ShadowWard$Region", "number", "I", true)
  | 2 => ("ShadowWard$Region", "address", "I", true)
  | 3 => ("ShadowWard$Region", "size", "I", true)
  | 4 => ("ShadowWard$Region", "end", "I", true)
  | 5 => ("ShadowWard$Region", "siteGiven", "I", true)
  | 6 => ("ShadowWard$Region", "siteFreed", "I", false)
  | 7 => ("ShadowWard$Block", "kind", "I", true)
  | 8 => ("ShadowWard$Block", "chunk", "I", true)
  | 9 => ("ShadowWard$Block", "chunkBytes", "I", true)
  | 10 => ("ShadowWard$Block", "state", "I", false)
  | 11 => ("ShadowWard$Block", "found", "Z", false)
  | _ => ("ShadowWard$Block", "ledToByLost", "Z", false)
def tyX0 : Nat → FieldType := fun k => match k with
  | 0 => .int
  | 1 => .int
  | 2 => .int
  | 3 => .int
  | 4 => .int
  | 5 => .int
  | 6 => .int
  | 7 => .int
  | 8 => .int
  | 9 => .int
  | 10 => .int
  | 11 => .boolean
  | _ => .boolean
abbrev wsX00 : List Cond := u_ws RX0 TX0 13
theorem nmX0 : ∀ a, a < 13 → ∀ b, b < 13 → a ≠ b → (TX0 a).2.1 ≠ (TX0 b).2.1 := by decide +kernel
theorem tyX0_ok : ∀ k, k < 13 → parseFieldDescriptor (TX0 k).2.2.1 = some (tyX0 k) := by decide +kernel
abbrev cX0_init : ByteArray := prog_2_method_1_code
def yX0_init : MethodName := ⟨RX0, "<init>", "(IIIII)V"⟩
abbrev cX0_redzone : ByteArray := prog_2_method_2_code
def yX0_redzone : MethodName := ⟨RX0, "redzone", "(I)I"⟩
abbrev cX0_chunkBytesFor : ByteArray := prog_2_method_3_code
def yX0_chunkBytesFor : MethodName := ⟨RX0, "chunkBytesFor", "(I)I"⟩
abbrev cX0_isLost : ByteArray := prog_2_method_4_code
def yX0_isLost : MethodName := ⟨RX0, "isLost", "()Z"⟩
abbrev cX0_answer : ByteArray := prog_2_method_5_code
def yX0_answer : MethodName := ⟨RX0, "answer", "(I)I"⟩
def RX1 : String := "ShadowWard$Frame"
def TX1 : u_T := fun k => match k with
  | 0 => ("ShadowWard$Frame", "address", "I", true)
  | 1 => ("ShadowWard$Frame", "bytes", "I", true)
  | _ => ("ShadowWard$Frame", "variables", "Ljava/util/ArrayList;", true)
def tyX1 : Nat → FieldType := fun k => match k with
  | 0 => .int
  | 1 => .int
  | _ => .object "java/util/ArrayList"
abbrev wsX10 : List Cond := u_ws RX1 TX1 3
theorem nmX1 : ∀ a, a < 3 → ∀ b, b < 3 → a ≠ b → (TX1 a).2.1 ≠ (TX1 b).2.1 := by decide +kernel
theorem tyX1_ok : ∀ k, k < 3 → parseFieldDescriptor (TX1 k).2.2.1 = some (tyX1 k) := by decide +kernel
abbrev cX1_init : ByteArray := prog_3_method_1_code
def yX1_init : MethodName := ⟨RX1, "<init>", "(II)V"⟩
def RX2 : String := "ShadowWard$Frames"
def TX2 : u_T := fun k => match k with
  | 0 => ("ShadowWard$Frames", "memory", "LShadowWard$Memory;", true)
  | _ => ("ShadowWard$Frames", "frames", "Ljava/util/ArrayList;", true)
def tyX2 : Nat → FieldType := fun k => match k with
  | 0 => .object "ShadowWard$Memory"
  | _ => .object "java/util/ArrayList"
abbrev wsX20 : List Cond := u_ws RX2 TX2 2
theorem nmX2 : ∀ a, a < 2 → ∀ b, b < 2 → a ≠ b → (TX2 a).2.1 ≠ (TX2 b).2.1 := by decide +kernel
theorem tyX2_ok : ∀ k, k < 2 → parseFieldDescriptor (TX2 k).2.2.1 = some (tyX2 k) := by decide +kernel
abbrev cX2_init : ByteArray := prog_4_method_1_code
def yX2_init : MethodName := ⟨RX2, "<init>", "(LShadowWard$Memory;)V"⟩
abbrev cX2_count : ByteArray := prog_4_method_2_code
def yX2_count : MethodName := ⟨RX2, "count", "()I"⟩
abbrev cX2_spanOf : ByteArray := prog_4_method_3_code
def yX2_spanOf : MethodName := ⟨RX2, "spanOf", "(I)I"⟩
abbrev cX2_push : ByteArray := prog_4_method_4_code
def yX2_push : MethodName := ⟨RX2, "push", "(IIII)I"⟩
abbrev cX2_addVariable : ByteArray := prog_4_method_5_code
def yX2_addVariable : MethodName := ⟨RX2, "addVariable", "(LShadowWard$Frame;II)I"⟩
abbrev cX2_paintFrame : ByteArray := prog_4_method_6_code
def yX2_paintFrame : MethodName := ⟨RX2, "paintFrame", "(LShadowWard$Frame;)V"⟩
abbrev cX2_pop : ByteArray := prog_4_method_7_code
def yX2_pop : MethodName := ⟨RX2, "pop", "()V"⟩
abbrev cX2_setScope : ByteArray := prog_4_method_8_code
def yX2_setScope : MethodName := ⟨RX2, "setScope", "(LShadowWard$Variable;Z)Z"⟩
abbrev cX2_nearestTo : ByteArray := prog_4_method_9_code
def yX2_nearestTo : MethodName := ⟨RX2, "nearestTo", "(I)LShadowWard$Region;"⟩
def RX3 : String := "ShadowWard$Globals"
def TX3 : u_T := fun k => match k with
  | 0 => ("ShadowWard$Globals", "memory", "LShadowWard$Memory;", true)
  | _ => ("ShadowWard$Globals", "regions", "Ljava/util/ArrayList;", true)
def tyX3 : Nat → FieldType := fun k => match k with
  | 0 => .object "ShadowWard$Memory"
  | _ => .object "java/util/ArrayList"
abbrev wsX30 : List Cond := u_ws RX3 TX3 2
theorem nmX3 : ∀ a, a < 2 → ∀ b, b < 2 → a ≠ b → (TX3 a).2.1 ≠ (TX3 b).2.1 := by decide +kernel
theorem tyX3_ok : ∀ k, k < 2 → parseFieldDescriptor (TX3 k).2.2.1 = some (tyX3 k) := by decide +kernel
abbrev cX3_init : ByteArray := prog_5_method_1_code
def yX3_init : MethodName := ⟨RX3, "<init>", "(LShadowWard$Memory;)V"⟩
abbrev cX3_place : ByteArray := prog_5_method_2_code
def yX3_place : MethodName := ⟨RX3, "place", "(I)I"⟩
abbrev cX3_nextAddress : ByteArray := prog_5_method_3_code
def yX3_nextAddress : MethodName := ⟨RX3, "nextAddress", "()I"⟩
abbrev cX3_nearestTo : ByteArray := prog_5_method_4_code
def yX3_nearestTo : MethodName := ⟨RX3, "nearestTo", "(I)LShadowWard$Region;"⟩
def RX4 : String := "ShadowWard$Heap"
def TX4 : u_T := fun k => match k with
  | 0 => ("ShadowWard$Heap", "memory", "LShadowWard$Memory;", true)
  | 1 => ("ShadowWard$Heap", "mostHeldBytes", "I", true)
  | 2 => ("ShadowWard$Heap", "blocks", "Ljava/util/ArrayList;", true)
  | 3 => ("ShadowWard$Heap", "quarantine", "Ljava/util/ArrayList;", true)
  | 4 => ("ShadowWard$Heap", "owners", "[LShadowWard$Block;", true)
  | 5 => ("ShadowWard$Heap", "liveCount", "I", false)
  | 6 => ("ShadowWard$Heap", "liveBytes", "I", false)
  | _ => ("ShadowWard$Heap", "heldBytes", "I", false)
def tyX4 : Nat → FieldType := fun k => match k with
  | 0 => .object "ShadowWard$Memory"
  | 1 => .int
  | 2 => .object "java/util/ArrayList"
  | 3 => .object "java/util/ArrayList"
  | 4 => .array (.object "ShadowWard$Block")
  | 5 => .int
  | 6 => .int
  | _ => .int
abbrev wsX40 : List Cond := u_ws RX4 TX4 8
theorem nmX4 : ∀ a, a < 8 → ∀ b, b < 8 → a ≠ b → (TX4 a).2.1 ≠ (TX4 b).2.1 := by decide +kernel
theorem tyX4_ok : ∀ k, k < 8 → parseFieldDescriptor (TX4 k).2.2.1 = some (tyX4 k) := by decide +kernel
abbrev cX4_init : ByteArray := prog_6_method_1_code
def yX4_init : MethodName := ⟨RX4, "<init>", "(LShadowWard$Memory;I)V"⟩
abbrev cX4_give : ByteArray := prog_6_method_2_code
def yX4_give : MethodName := ⟨RX4, "give", "(III)LShadowWard$Block;"⟩
abbrev cX4_unitWithRoom : ByteArray := prog_6_method_3_code
def yX4_unitWithRoom : MethodName := ⟨RX4, "unitWithRoom", "(I)I"⟩
abbrev cX4_firstFreeRun : ByteArray := prog_6_method_4_code
def yX4_firstFreeRun : MethodName := ⟨RX4, "firstFreeRun", "(I)I"⟩
abbrev cX4_setOwner : ByteArray := prog_6_method_5_code
def yX4_setOwner : MethodName := ⟨RX4, "setOwner", "(LShadowWard$Block;LShadowWard$Block;)V"⟩
abbrev cX4_takeBack : ByteArray := prog_6_method_6_code
def yX4_takeBack : MethodName := ⟨RX4, "takeBack", "(LShadowWard$Block;I)V"⟩
abbrev cX4_releaseOldest : ByteArray := prog_6_method_7_code
def yX4_releaseOldest : MethodName := ⟨RX4, "releaseOldest", "()V"⟩
abbrev cX4_chunkOwner : ByteArray := prog_6_method_8_code
def yX4_chunkOwner : MethodName := ⟨RX4, "chunkOwner", "(I)LShadowWard$Block;"⟩
abbrev cX4_blockAt : ByteArray := prog_6_method_9_code
def yX4_blockAt : MethodName := ⟨RX4, "blockAt", "(I)LShadowWard$Block;"⟩
abbrev cX4_liveBlockWith : ByteArray := prog_6_method_10_code
def yX4_liveBlockWith : MethodName := ⟨RX4, "liveBlockWith", "(I)LShadowWard$Block;"⟩
abbrev cX4_nearestTo : ByteArray := prog_6_method_11_code
def yX4_nearestTo : MethodName := ⟨RX4, "nearestTo", "(I)LShadowWard$Region;"⟩
def RX5 : String := "ShadowWard$LostSearch"
def TX5 : u_T := fun k => match k with
  | 0 => ("ShadowWard$LostSearch", "memory", "LShadowWard$Memory;", true)
  | 1 => ("ShadowWard$LostSearch", "globals", "LShadowWard$Globals;", true)
  | 2 => ("ShadowWard$LostSearch", "frames", "LShadowWard$Frames;", true)
  | 3 => ("ShadowWard$LostSearch", "heap", "LShadowWard$Heap;", true)
  | _ => ("ShadowWard$LostSearch", "found", "Ljava/util/ArrayList;", true)
def tyX5 : Nat → FieldType := fun k => match k with
  | 0 => .object "ShadowWard$Memory"
  | 1 => .object "ShadowWard$Globals"
  | 2 => .object "ShadowWard$Frames"
  | 3 => .object "ShadowWard$Heap"
  | _ => .object "java/util/ArrayList"
abbrev wsX50 : List Cond := u_ws RX5 TX5 5
theorem nmX5 : ∀ a, a < 5 → ∀ b, b < 5 → a ≠ b → (TX5 a).2.1 ≠ (TX5 b).2.1 := by decide +kernel
theorem tyX5_ok : ∀ k, k < 5 → parseFieldDescriptor (TX5 k).2.2.1 = some (tyX5 k) := by decide +kernel
abbrev cX5_init : ByteArray := prog_7_method_1_code
def yX5_init : MethodName := ⟨RX5, "<init>", "(LShadowWard$Memory;LShadowWard$Globals;LShadowWard$Frames;LShadowWard$Heap;)V"⟩
abbrev cX5_firstFrom : ByteArray := prog_7_method_2_code
def yX5_firstFrom : MethodName := ⟨RX5, "firstFrom", "(IZ)I"⟩
abbrev cX5_count : ByteArray := prog_7_method_3_code
def yX5_count : MethodName := ⟨RX5, "count", "()I"⟩
abbrev cX5_markFound : ByteArray := prog_7_method_4_code
def yX5_markFound : MethodName := ⟨RX5, "markFound", "()V"⟩
abbrev cX5_findFrom : ByteArray := prog_7_method_5_code
def yX5_findFrom : MethodName := ⟨RX5, "findFrom", "(LShadowWard$Region;)V"⟩
abbrev cX5_markLedToByLost : ByteArray := prog_7_method_6_code
def yX5_markLedToByLost : MethodName := ⟨RX5, "markLedToByLost", "()V"⟩
abbrev cX5_markLedToFrom : ByteArray := prog_7_method_7_code
def yX5_markLedToFrom : MethodName := ⟨RX5, "markLedToFrom", "(LShadowWard$Block;)V"⟩
abbrev cX5_ledToFrom : ByteArray := prog_7_method_8_code
def yX5_ledToFrom : MethodName := ⟨RX5, "ledToFrom", "(I)LShadowWard$Block;"⟩
def RX6 : String := "ShadowWard$Memory"
def TX6 : u_T := fun k => match k with
  | 0 => ("ShadowWard$Memory", "size", "I", true)
  | 1 => ("ShadowWard$Memory", "stackStart", "I", true)
  | 2 => ("ShadowWard$Memory", "heapStart", "I", true)
  | 3 => ("ShadowWard$Memory", "bytes", "[I", true)
  | _ => ("ShadowWard$Memory", "shadows", "[I", true)
def tyX6 : Nat → FieldType := fun k => match k with
  | 0 => .int
  | 1 => .int
  | 2 => .int
  | 3 => .array .int
  | _ => .array .int
abbrev wsX60 : List Cond := u_ws RX6 TX6 5
theorem nmX6 : ∀ a, a < 5 → ∀ b, b < 5 → a ≠ b → (TX6 a).2.1 ≠ (TX6 b).2.1 := by decide +kernel
theorem tyX6_ok : ∀ k, k < 5 → parseFieldDescriptor (TX6 k).2.2.1 = some (tyX6 k) := by decide +kernel
abbrev cX6_init : ByteArray := prog_8_method_1_code
def yX6_init : MethodName := ⟨RX6, "<init>", "(I)V"⟩
abbrev cX6_isAddress : ByteArray := prog_8_method_2_code
def yX6_isAddress : MethodName := ⟨RX6, "isAddress", "(I)Z"⟩
abbrev cX6_holds : ByteArray := prog_8_method_3_code
def yX6_holds : MethodName := ⟨RX6, "holds", "(II)Z"⟩
abbrev cX6_granules : ByteArray := prog_8_method_4_code
def yX6_granules : MethodName := ⟨RX6, "granules", "()I"⟩
abbrev cX6_shadowOf : ByteArray := prog_8_method_5_code
def yX6_shadowOf : MethodName := ⟨RX6, "shadowOf", "(I)I"⟩
abbrev cX6_byteAt : ByteArray := prog_8_method_6_code
def yX6_byteAt : MethodName := ⟨RX6, "byteAt", "(I)I"⟩
abbrev cX6_paint : ByteArray := prog_8_method_7_code
def yX6_paint : MethodName := ⟨RX6, "paint", "(III)V"⟩
abbrev cX6_open : ByteArray := prog_8_method_8_code
def yX6_open : MethodName := ⟨RX6, "open", "(II)V"⟩
abbrev cX6_exchangeWhole : ByteArray := prog_8_method_9_code
def yX6_exchangeWhole : MethodName := ⟨RX6, "exchangeWhole", "(IIII)I"⟩
abbrev cX6_goodBytes : ByteArray := prog_8_method_10_code
def yX6_goodBytes : MethodName := ⟨RX6, "goodBytes", "(I)I"⟩
abbrev cX6_goodAddresses : ByteArray := prog_8_method_11_code
def yX6_goodAddresses : MethodName := ⟨RX6, "goodAddresses", "()I"⟩
abbrev cX6_isGood : ByteArray := prog_8_method_12_code
def yX6_isGood : MethodName := ⟨RX6, "isGood", "(I)Z"⟩
abbrev cX6_firstWrong : ByteArray := prog_8_method_13_code
def yX6_firstWrong : MethodName := ⟨RX6, "firstWrong", "(II)I"⟩
abbrev cX6_kindOfWrong : ByteArray := prog_8_method_14_code
def yX6_kindOfWrong : MethodName := ⟨RX6, "kindOfWrong", "(I)I"⟩
abbrev cX6_number : ByteArray := prog_8_method_15_code
def yX6_number : MethodName := ⟨RX6, "number", "(II)J"⟩
abbrev cX6_setNumber : ByteArray := prog_8_method_16_code
def yX6_setNumber : MethodName := ⟨RX6, "setNumber", "(IIJ)V"⟩
abbrev cX6_setBytes : ByteArray := prog_8_method_17_code
def yX6_setBytes : MethodName := ⟨RX6, "setBytes", "(III)V"⟩
abbrev cX6_moveBytes : ByteArray := prog_8_method_18_code
def yX6_moveBytes : MethodName := ⟨RX6, "moveBytes", "(III)V"⟩
def RX7 : String := "ShadowWard$Region"
def TX7 : u_T := fun k => match k with
  | 0 => ("ShadowWard$Region", "place", "I", true)
  | 1 => ("ShadowWard$Region", "number", "I", true)
  | 2 => ("ShadowWard$Region", "address", "I", true)
  | 3 => ("ShadowWard$Region", "size", "I", true)
  | 4 => ("ShadowWard$Region", "end", "I", true)
  | 5 => ("ShadowWard$Region", "siteGiven", "I", true)
  | _ => ("ShadowWard$Region", "siteFreed", "I", false)
def tyX7 : Nat → FieldType := fun k => match k with
  | 0 => .int
  | 1 => .int
  | 2 => .int
  | 3 => .int
  | 4 => .int
  | 5 => .int
  | _ => .int
abbrev wsX70 : List Cond := u_ws RX7 TX7 7
theorem nmX7 : ∀ a, a < 7 → ∀ b, b < 7 → a ≠ b → (TX7 a).2.1 ≠ (TX7 b).2.1 := by decide +kernel
theorem tyX7_ok : ∀ k, k < 7 → parseFieldDescriptor (TX7 k).2.2.1 = some (tyX7 k) := by decide +kernel
abbrev cX7_init : ByteArray := prog_9_method_1_code
def yX7_init : MethodName := ⟨RX7, "<init>", "(IIIII)V"⟩
abbrev cX7_hasByte : ByteArray := prog_9_method_2_code
def yX7_hasByte : MethodName := ⟨RX7, "hasByte", "(I)Z"⟩
abbrev cX7_farFrom : ByteArray := prog_9_method_3_code
def yX7_farFrom : MethodName := ⟨RX7, "farFrom", "(I)I"⟩
abbrev cX7_sideOf : ByteArray := prog_9_method_4_code
def yX7_sideOf : MethodName := ⟨RX7, "sideOf", "(I)I"⟩
def RX8 : String := "ShadowWard$Report"
def TX8 : u_T := fun k => match k with
  | 0 => ("ShadowWard$Report", "kind", "I", true)
  | 1 => ("ShadowWard$Report", "address", "I", true)
  | 2 => ("ShadowWard$Report", "bytes", "I", true)
  | 3 => ("ShadowWard$Report", "readOrWrite", "I", true)
  | 4 => ("ShadowWard$Report", "place", "I", false)
  | 5 => ("ShadowWard$Report", "number", "I", false)
  | 6 => ("ShadowWard$Report", "far", "I", false)
  | 7 => ("ShadowWard$Report", "side", "I", false)
  | 8 => ("ShadowWard$Report", "siteGiven", "I", false)
  | _ => ("ShadowWard$Report", "siteFreed", "I", false)
def tyX8 : Nat → FieldType := fun k => match k with
  | 0 => .int
  | 1 => .int
  | 2 => .int
  | 3 => .int
  | 4 => .int
  | 5 => .int
  | 6 => .int
  | 7 => .int
  | 8 => .int
  | _ => .int
abbrev wsX80 : List Cond := u_ws RX8 TX8 10
theorem nmX8 : ∀ a, a < 10 → ∀ b, b < 10 → a ≠ b → (TX8 a).2.1 ≠ (TX8 b).2.1 := by decide +kernel
theorem tyX8_ok : ∀ k, k < 10 → parseFieldDescriptor (TX8 k).2.2.1 = some (tyX8 k) := by decide +kernel
abbrev cX8_init : ByteArray := prog_10_method_1_code
def yX8_init : MethodName := ⟨RX8, "<init>", "(IIIILShadowWard$Region;)V"⟩
abbrev cX8_answer : ByteArray := prog_10_method_2_code
def yX8_answer : MethodName := ⟨RX8, "answer", "(I)I"⟩
def RX9 : String := "ShadowWard$Variable"
def TX9 : u_T := fun k => match k with
  | 0 => ("ShadowWard$Region", "place", "I", true)
  | 1 => ("ShadowWard$Region", "number", "I", true)
  | 2 => ("ShadowWard$Region", "address", "I", true)
  | 3 => ("ShadowWard$Region", "size", "I", true)
  | 4 => ("ShadowWard$Region", "end", "I", true)
  | 5 => ("ShadowWard$Region", "siteGiven", "I", true)
  | 6 => ("ShadowWard$Region", "siteFreed", "I", false)
  | _ => ("ShadowWard$Variable", "inScope", "Z", false)
def tyX9 : Nat → FieldType := fun k => match k with
  | 0 => .int
  | 1 => .int
  | 2 => .int
  | 3 => .int
  | 4 => .int
  | 5 => .int
  | 6 => .int
  | _ => .boolean
abbrev wsX90 : List Cond := u_ws RX9 TX9 8
theorem nmX9 : ∀ a, a < 8 → ∀ b, b < 8 → a ≠ b → (TX9 a).2.1 ≠ (TX9 b).2.1 := by decide +kernel
theorem tyX9_ok : ∀ k, k < 8 → parseFieldDescriptor (TX9 k).2.2.1 = some (tyX9 k) := by decide +kernel
abbrev cX9_init : ByteArray := prog_11_method_1_code
def yX9_init : MethodName := ⟨RX9, "<init>", "(III)V"⟩
def RX10 : String := "ShadowWard"
def TX10 : u_T := fun k => match k with
  | 0 => ("ShadowWard", "memory", "LShadowWard$Memory;", true)
  | 1 => ("ShadowWard", "globals", "LShadowWard$Globals;", true)
  | 2 => ("ShadowWard", "frames", "LShadowWard$Frames;", true)
  | 3 => ("ShadowWard", "heap", "LShadowWard$Heap;", true)
  | 4 => ("ShadowWard", "lostSearch", "LShadowWard$LostSearch;", true)
  | _ => ("ShadowWard", "reports", "Ljava/util/ArrayList;", true)
def tyX10 : Nat → FieldType := fun k => match k with
  | 0 => .object "ShadowWard$Memory"
  | 1 => .object "ShadowWard$Globals"
  | 2 => .object "ShadowWard$Frames"
  | 3 => .object "ShadowWard$Heap"
  | 4 => .object "ShadowWard$LostSearch"
  | _ => .object "java/util/ArrayList"
abbrev wsX100 : List Cond := u_ws RX10 TX10 6
theorem nmX10 : ∀ a, a < 6 → ∀ b, b < 6 → a ≠ b → (TX10 a).2.1 ≠ (TX10 b).2.1 := by decide +kernel
theorem tyX10_ok : ∀ k, k < 6 → parseFieldDescriptor (TX10 k).2.2.1 = some (tyX10 k) := by decide +kernel
abbrev cX10_init : ByteArray := prog_1_method_1_code
def yX10_init : MethodName := ⟨RX10, "<init>", "(II)V"⟩
abbrev cX10_global : ByteArray := prog_1_method_2_code
def yX10_global : MethodName := ⟨RX10, "global", "(I)I"⟩
abbrev cX10_enter : ByteArray := prog_1_method_3_code
def yX10_enter : MethodName := ⟨RX10, "enter", "(IIII)I"⟩
abbrev cX10_leave : ByteArray := prog_1_method_4_code
def yX10_leave : MethodName := ⟨RX10, "leave", "()I"⟩
abbrev cX10_scope : ByteArray := prog_1_method_5_code
def yX10_scope : MethodName := ⟨RX10, "scope", "(IIZ)Z"⟩
abbrev cX10_variable : ByteArray := prog_1_method_6_code
def yX10_variable : MethodName := ⟨RX10, "variable", "(II)I"⟩
abbrev cX10_allocate : ByteArray := prog_1_method_7_code
def yX10_allocate : MethodName := ⟨RX10, "allocate", "(III)I"⟩
abbrev cX10_free : ByteArray := prog_1_method_8_code
def yX10_free : MethodName := ⟨RX10, "free", "(III)Z"⟩
abbrev cX10_resize : ByteArray := prog_1_method_9_code
def yX10_resize : MethodName := ⟨RX10, "resize", "(III)I"⟩
abbrev cX10_load : ByteArray := prog_1_method_10_code
def yX10_load : MethodName := ⟨RX10, "load", "(II)J"⟩
abbrev cX10_store : ByteArray := prog_1_method_11_code
def yX10_store : MethodName := ⟨RX10, "store", "(IIJ)Z"⟩
abbrev cX10_fill : ByteArray := prog_1_method_12_code
def yX10_fill : MethodName := ⟨RX10, "fill", "(III)Z"⟩
abbrev cX10_copy : ByteArray := prog_1_method_13_code
def yX10_copy : MethodName := ⟨RX10, "copy", "(IIIZ)Z"⟩
abbrev cX10_length : ByteArray := prog_1_method_14_code
def yX10_length : MethodName := ⟨RX10, "length", "(I)I"⟩
abbrev cX10_text : ByteArray := prog_1_method_15_code
def yX10_text : MethodName := ⟨RX10, "text", "(II)I"⟩
abbrev cX10_compare : ByteArray := prog_1_method_16_code
def yX10_compare : MethodName := ⟨RX10, "compare", "(III)I"⟩
abbrev cX10_lock : ByteArray := prog_1_method_17_code
def yX10_lock : MethodName := ⟨RX10, "lock", "(II)I"⟩
abbrev cX10_unlock : ByteArray := prog_1_method_18_code
def yX10_unlock : MethodName := ⟨RX10, "unlock", "(II)I"⟩
abbrev cX10_report : ByteArray := prog_1_method_19_code
def yX10_report : MethodName := ⟨RX10, "report", "(II)I"⟩
abbrev cX10_block : ByteArray := prog_1_method_20_code
def yX10_block : MethodName := ⟨RX10, "block", "(II)I"⟩
abbrev cX10_shadow : ByteArray := prog_1_method_21_code
def yX10_shadow : MethodName := ⟨RX10, "shadow", "(I)I"⟩
abbrev cX10_peek : ByteArray := prog_1_method_22_code
def yX10_peek : MethodName := ⟨RX10, "peek", "(I)I"⟩
abbrev cX10_held : ByteArray := prog_1_method_23_code
def yX10_held : MethodName := ⟨RX10, "held", "(I)I"⟩
abbrev cX10_lost : ByteArray := prog_1_method_24_code
def yX10_lost : MethodName := ⟨RX10, "lost", "(IZ)I"⟩
abbrev cX10_told : ByteArray := prog_1_method_25_code
def yX10_told : MethodName := ⟨RX10, "told", "(I)I"⟩
abbrev cX10_demand : ByteArray := prog_1_method_26_code
def yX10_demand : MethodName := ⟨RX10, "demand", "(Z)V"⟩
abbrev cX10_demandIndex : ByteArray := prog_1_method_27_code
def yX10_demandIndex : MethodName := ⟨RX10, "demandIndex", "(II)V"⟩
abbrev cX10_isVariableSize : ByteArray := prog_1_method_28_code
def yX10_isVariableSize : MethodName := ⟨RX10, "isVariableSize", "(I)Z"⟩
abbrev cX10_isBlockKind : ByteArray := prog_1_method_29_code
def yX10_isBlockKind : MethodName := ⟨RX10, "isBlockKind", "(I)Z"⟩
abbrev cX10_isCount : ByteArray := prog_1_method_30_code
def yX10_isCount : MethodName := ⟨RX10, "isCount", "(I)Z"⟩
abbrev cX10_roundUp : ByteArray := prog_1_method_31_code
def yX10_roundUp : MethodName := ⟨RX10, "roundUp", "(II)I"⟩
abbrev cX10_variableOf : ByteArray := prog_1_method_32_code
def yX10_variableOf : MethodName := ⟨RX10, "variableOf", "(II)LShadowWard$Variable;"⟩
abbrev cX10_blockToFree : ByteArray := prog_1_method_33_code
def yX10_blockToFree : MethodName := ⟨RX10, "blockToFree", "(II)LShadowWard$Block;"⟩
abbrev cX10_permits : ByteArray := prog_1_method_34_code
def yX10_permits : MethodName := ⟨RX10, "permits", "(III)Z"⟩
abbrev cX10_tell : ByteArray := prog_1_method_35_code
def yX10_tell : MethodName := ⟨RX10, "tell", "(IIII)V"⟩
abbrev cX10_nearer : ByteArray := prog_1_method_36_code
def yX10_nearer : MethodName := ⟨RX10, "nearer", "(LShadowWard$Region;LShadowWard$Region;I)LShadowWard$Region;"⟩
def RX11 : String := "ShadowWardModel"
def TX11 : u_T := fun k => match k with
  | 0 => ("ShadowWardModel", "thrown", "I", false)
  | 1 => ("ShadowWardModel", "n", "I", true)
  | 2 => ("ShadowWardModel", "q", "I", true)
  | 3 => ("ShadowWardModel", "memory", "[B", true)
  | 4 => ("ShadowWardModel", "shadows", "[I", true)
  | 5 => ("ShadowWardModel", "globalAt", "[I", true)
  | 6 => ("ShadowWardModel", "globalSize", "[I", true)
  | 7 => ("ShadowWardModel", "globals", "I", false)
  | 8 => ("ShadowWardModel", "frameAt", "[I", true)
  | 9 => ("ShadowWardModel", "frameEnd", "[I", true)
  | 10 => ("ShadowWardModel", "variables", "[I", true)
  | 11 => ("ShadowWardModel", "varAt", "[I", true)
  | 12 => ("ShadowWardModel", "varSize", "[I", true)
  | 13 => ("ShadowWardModel", "outOfScope", "[Z", true)
  | 14 => ("ShadowWardModel", "frames", "I", false)
  | 15 => ("ShadowWardModel", "blockAt", "[I", true)
  | 16 => ("ShadowWardModel", "blockSize", "[I", true)
  | 17 => ("ShadowWardModel", "blockKind", "[I", true)
  | 18 => ("ShadowWardModel", "blockState", "[I", true)
  | 19 => ("ShadowWardModel", "chunkAt", "[I", true)
  | 20 => ("ShadowWardModel", "chunkSize", "[I", true)
  | 21 => ("ShadowWardModel", "givenAt", "[I", true)
  | 22 => ("ShadowWardModel", "freedAt", "[I", true)
  | 23 => ("ShadowWardModel", "blocks", "I", false)
  | 24 => ("ShadowWardModel", "quarantine", "[I", true)
  | 25 => ("ShadowWardModel", "held", "I", false)
  | 26 => ("ShadowWardModel", "reports", "[I", true)
  | 27 => ("ShadowWardModel", "reportCount", "I", false)
  | 28 => ("ShadowWardModel", "found", "[Z", true)
  | _ => ("ShadowWardModel", "moved", "[B", true)
def tyX11 : Nat → FieldType := fun k => match k with
  | 0 => .int
  | 1 => .int
  | 2 => .int
  | 3 => .array .byte
  | 4 => .array .int
  | 5 => .array .int
  | 6 => .array .int
  | 7 => .int
  | 8 => .array .int
  | 9 => .array .int
  | 10 => .array .int
  | 11 => .array .int
  | 12 => .array .int
  | 13 => .array .boolean
  | 14 => .int
  | 15 => .array .int
  | 16 => .array .int
  | 17 => .array .int
  | 18 => .array .int
  | 19 => .array .int
  | 20 => .array .int
  | 21 => .array .int
  | 22 => .array .int
  | 23 => .int
  | 24 => .array .int
  | 25 => .int
  | 26 => .array .int
  | 27 => .int
  | 28 => .array .boolean
  | _ => .array .byte
abbrev wsX110 : List Cond := u_ws RX11 TX11 30
theorem nmX11 : ∀ a, a < 30 → ∀ b, b < 30 → a ≠ b → (TX11 a).2.1 ≠ (TX11 b).2.1 := by decide +kernel
theorem tyX11_ok : ∀ k, k < 30 → parseFieldDescriptor (TX11 k).2.2.1 = some (tyX11 k) := by decide +kernel
abbrev cX11_init : ByteArray := prog_13_method_1_code
def yX11_init : MethodName := ⟨RX11, "<init>", "(II)V"⟩
abbrev cX11_thrown : ByteArray := prog_13_method_2_code
def yX11_thrown : MethodName := ⟨RX11, "thrown", "()I"⟩
abbrev cX11_refuses : ByteArray := prog_13_method_3_code
def yX11_refuses : MethodName := ⟨RX11, "refuses", "(I)Z"⟩
abbrev cX11_paint : ByteArray := prog_13_method_4_code
def yX11_paint : MethodName := ⟨RX11, "paint", "(III)V"⟩
abbrev cX11_opens : ByteArray := prog_13_method_5_code
def yX11_opens : MethodName := ⟨RX11, "opens", "(II)V"⟩
abbrev cX11_global : ByteArray := prog_13_method_6_code
def yX11_global : MethodName := ⟨RX11, "global", "(I)I"⟩
abbrev cX11_padded : ByteArray := prog_13_method_7_code
def yX11_padded : MethodName := ⟨RX11, "padded", "(I)I"⟩
abbrev cX11_isSize : ByteArray := prog_13_method_8_code
def yX11_isSize : MethodName := ⟨RX11, "isSize", "(I)Z"⟩
abbrev cX11_enter : ByteArray := prog_13_method_9_code
def yX11_enter : MethodName := ⟨RX11, "enter", "(IIII)I"⟩
abbrev cX11_leave : ByteArray := prog_13_method_10_code
def yX11_leave : MethodName := ⟨RX11, "leave", "()I"⟩
abbrev cX11_noVariable : ByteArray := prog_13_method_11_code
def yX11_noVariable : MethodName := ⟨RX11, "noVariable", "(II)Z"⟩
abbrev cX11_scope : ByteArray := prog_13_method_12_code
def yX11_scope : MethodName := ⟨RX11, "scope", "(IIZ)Z"⟩
abbrev cX11_variable : ByteArray := prog_13_method_13_code
def yX11_variable : MethodName := ⟨RX11, "variable", "(II)I"⟩
abbrev cX11_redzone : ByteArray := prog_13_method_14_code
def yX11_redzone : MethodName := ⟨RX11, "redzone", "(I)I"⟩
abbrev cX11_isFree : ByteArray := prog_13_method_15_code
def yX11_isFree : MethodName := ⟨RX11, "isFree", "(II)Z"⟩
abbrev cX11_placeFor : ByteArray := prog_13_method_16_code
def yX11_placeFor : MethodName := ⟨RX11, "placeFor", "(I)I"⟩
abbrev cX11_oldestLeaves : ByteArray := prog_13_method_17_code
def yX11_oldestLeaves : MethodName := ⟨RX11, "oldestLeaves", "()V"⟩
abbrev cX11_given : ByteArray := prog_13_method_18_code
def yX11_given : MethodName := ⟨RX11, "given", "(III)I"⟩
abbrev cX11_allocate : ByteArray := prog_13_method_19_code
def yX11_allocate : MethodName := ⟨RX11, "allocate", "(III)I"⟩
abbrev cX11_heldBytes : ByteArray := prog_13_method_20_code
def yX11_heldBytes : MethodName := ⟨RX11, "heldBytes", "()I"⟩
abbrev cX11_goes : ByteArray := prog_13_method_21_code
def yX11_goes : MethodName := ⟨RX11, "goes", "(II)V"⟩
abbrev cX11_blockIn : ByteArray := prog_13_method_22_code
def yX11_blockIn : MethodName := ⟨RX11, "blockIn", "(II)I"⟩
abbrev cX11_mayGo : ByteArray := prog_13_method_23_code
def yX11_mayGo : MethodName := ⟨RX11, "mayGo", "(II)I"⟩
abbrev cX11_free : ByteArray := prog_13_method_24_code
def yX11_free : MethodName := ⟨RX11, "free", "(III)Z"⟩
abbrev cX11_resize : ByteArray := prog_13_method_25_code
def yX11_resize : MethodName := ⟨RX11, "resize", "(III)I"⟩
abbrev cX11_far : ByteArray := prog_13_method_26_code
def yX11_far : MethodName := ⟨RX11, "far", "(JII)J"⟩
abbrev cX11_tells : ByteArray := prog_13_method_27_code
def yX11_tells : MethodName := ⟨RX11, "tells", "(IJIZ)V"⟩
abbrev cX11_regionAt : ByteArray := prog_13_method_28_code
def yX11_regionAt : MethodName := ⟨RX11, "regionAt", "(II)I"⟩
abbrev cX11_nearer : ByteArray := prog_13_method_29_code
def yX11_nearer : MethodName := ⟨RX11, "nearer", "(IJIIII)V"⟩
abbrev cX11_wrong : ByteArray := prog_13_method_30_code
def yX11_wrong : MethodName := ⟨RX11, "wrong", "(J)I"⟩
abbrev cX11_right : ByteArray := prog_13_method_31_code
def yX11_right : MethodName := ⟨RX11, "right", "(JIIIZ)Z"⟩
abbrev cX11_load : ByteArray := prog_13_method_32_code
def yX11_load : MethodName := ⟨RX11, "load", "(II)J"⟩
abbrev cX11_store : ByteArray := prog_13_method_33_code
def yX11_store : MethodName := ⟨RX11, "store", "(IIJ)Z"⟩
abbrev cX11_noAmount : ByteArray := prog_13_method_34_code
def yX11_noAmount : MethodName := ⟨RX11, "noAmount", "(I)Z"⟩
abbrev cX11_fill : ByteArray := prog_13_method_35_code
def yX11_fill : MethodName := ⟨RX11, "fill", "(III)Z"⟩
abbrev cX11_copies : ByteArray := prog_13_method_36_code
def yX11_copies : MethodName := ⟨RX11, "copies", "(IIIZ)Z"⟩
abbrev cX11_copy : ByteArray := prog_13_method_37_code
def yX11_copy : MethodName := ⟨RX11, "copy", "(IIIZ)Z"⟩
abbrev cX11_lengthOf : ByteArray := prog_13_method_38_code
def yX11_lengthOf : MethodName := ⟨RX11, "lengthOf", "(I)I"⟩
abbrev cX11_length : ByteArray := prog_13_method_39_code
def yX11_length : MethodName := ⟨RX11, "length", "(I)I"⟩
abbrev cX11_text : ByteArray := prog_13_method_40_code
def yX11_text : MethodName := ⟨RX11, "text", "(II)I"⟩
abbrev cX11_compare : ByteArray := prog_13_method_41_code
def yX11_compare : MethodName := ⟨RX11, "compare", "(III)I"⟩
abbrev cX11_change : ByteArray := prog_13_method_42_code
def yX11_change : MethodName := ⟨RX11, "change", "(IIII)I"⟩
abbrev cX11_lock : ByteArray := prog_13_method_43_code
def yX11_lock : MethodName := ⟨RX11, "lock", "(II)I"⟩
abbrev cX11_unlock : ByteArray := prog_13_method_44_code
def yX11_unlock : MethodName := ⟨RX11, "unlock", "(II)I"⟩
abbrev cX11_report : ByteArray := prog_13_method_45_code
def yX11_report : MethodName := ⟨RX11, "report", "(II)I"⟩
abbrev cX11_block : ByteArray := prog_13_method_46_code
def yX11_block : MethodName := ⟨RX11, "block", "(II)I"⟩
abbrev cX11_shadow : ByteArray := prog_13_method_47_code
def yX11_shadow : MethodName := ⟨RX11, "shadow", "(I)I"⟩
abbrev cX11_peek : ByteArray := prog_13_method_48_code
def yX11_peek : MethodName := ⟨RX11, "peek", "(I)I"⟩
abbrev cX11_held : ByteArray := prog_13_method_49_code
def yX11_held : MethodName := ⟨RX11, "held", "(I)I"⟩
abbrev cX11_word : ByteArray := prog_13_method_50_code
def yX11_word : MethodName := ⟨RX11, "word", "(I)J"⟩
abbrev cX11_leads : ByteArray := prog_13_method_51_code
def yX11_leads : MethodName := ⟨RX11, "leads", "(III)Z"⟩
abbrev cX11_isRooted : ByteArray := prog_13_method_52_code
def yX11_isRooted : MethodName := ⟨RX11, "isRooted", "(I)Z"⟩
abbrev cX11_walk : ByteArray := prog_13_method_53_code
def yX11_walk : MethodName := ⟨RX11, "walk", "()V"⟩
abbrev cX11_isLost : ByteArray := prog_13_method_54_code
def yX11_isLost : MethodName := ⟨RX11, "isLost", "(I)Z"⟩
abbrev cX11_isAlone : ByteArray := prog_13_method_55_code
def yX11_isAlone : MethodName := ⟨RX11, "isAlone", "(I)Z"⟩
abbrev cX11_lost : ByteArray := prog_13_method_56_code
def yX11_lost : MethodName := ⟨RX11, "lost", "(IZ)I"⟩
abbrev cX11_told : ByteArray := prog_13_method_57_code
def yX11_told : MethodName := ⟨RX11, "told", "(I)I"⟩
abbrev cX11_good : ByteArray := prog_13_method_58_code
def yX11_good : MethodName := ⟨RX11, "good", "()I"⟩
def RJx145de : String := "java/io/Serializable"
def TJx145de : u_T := fun k => match k with
  | _ => ("", "", "", false)
def tyJx145de : Nat → FieldType := fun k => match k with
  | _ => .int
abbrev wsJx145de0 : List Cond := u_ws RJx145de TJx145de 0
theorem nmJx145de : ∀ a, a < 0 → ∀ b, b < 0 → a ≠ b → (TJx145de a).2.1 ≠ (TJx145de b).2.1 := by decide +kernel
theorem tyJx145de_ok : ∀ k, k < 0 → parseFieldDescriptor (TJx145de k).2.2.1 = some (tyJx145de k) := by decide +kernel
def RJx8e188 : String := "java/lang/Cloneable"
def TJx8e188 : u_T := fun k => match k with
  | _ => ("", "", "", false)
def tyJx8e188 : Nat → FieldType := fun k => match k with
  | _ => .int
abbrev wsJx8e1880 : List Cond := u_ws RJx8e188 TJx8e188 0
theorem nmJx8e188 : ∀ a, a < 0 → ∀ b, b < 0 → a ≠ b → (TJx8e188 a).2.1 ≠ (TJx8e188 b).2.1 := by decide +kernel
theorem tyJx8e188_ok : ∀ k, k < 0 → parseFieldDescriptor (TJx8e188 k).2.2.1 = some (tyJx8e188 k) := by decide +kernel
def RJ6 : String := "java/lang/Integer"
def TJ6 : u_T := fun k => match k with
  | _ => ("", "", "", false)
def tyJ6 : Nat → FieldType := fun k => match k with
  | _ => .int
abbrev wsJ60 : List Cond := u_ws RJ6 TJ6 0
theorem nmJ6 : ∀ a, a < 0 → ∀ b, b < 0 → a ≠ b → (TJ6 a).2.1 ≠ (TJ6 b).2.1 := by decide +kernel
theorem tyJ6_ok : ∀ k, k < 0 → parseFieldDescriptor (TJ6 k).2.2.1 = some (tyJ6 k) := by decide +kernel
abbrev cJ6_compare_7cf53 : ByteArray := prog_20_method_40_code
def yJ6_compare_7cf53 : MethodName := ⟨RJ6, "compare", "(II)I"⟩
def RJxab1ab : String := "java/lang/Iterable"
def TJxab1ab : u_T := fun k => match k with
  | _ => ("", "", "", false)
def tyJxab1ab : Nat → FieldType := fun k => match k with
  | _ => .int
abbrev wsJxab1ab0 : List Cond := u_ws RJxab1ab TJxab1ab 0
theorem nmJxab1ab : ∀ a, a < 0 → ∀ b, b < 0 → a ≠ b → (TJxab1ab a).2.1 ≠ (TJxab1ab b).2.1 := by decide +kernel
theorem tyJxab1ab_ok : ∀ k, k < 0 → parseFieldDescriptor (TJxab1ab k).2.2.1 = some (tyJxab1ab k) := by decide +kernel
def RJ9 : String := "java/lang/Math"
def TJ9 : u_T := fun k => match k with
  | _ => ("", "", "", false)
def tyJ9 : Nat → FieldType := fun k => match k with
  | _ => .int
abbrev wsJ90 : List Cond := u_ws RJ9 TJ9 0
theorem nmJ9 : ∀ a, a < 0 → ∀ b, b < 0 → a ≠ b → (TJ9 a).2.1 ≠ (TJ9 b).2.1 := by decide +kernel
theorem tyJ9_ok : ∀ k, k < 0 → parseFieldDescriptor (TJ9 k).2.2.1 = some (tyJ9 k) := by decide +kernel
abbrev cJ9_abs_067f4 : ByteArray := prog_22_method_61_code
def yJ9_abs_067f4 : MethodName := ⟨RJ9, "abs", "(J)J"⟩
abbrev cJ9_max_7cf53 : ByteArray := prog_22_method_65_code
def yJ9_max_7cf53 : MethodName := ⟨RJ9, "max", "(II)I"⟩
abbrev cJ9_min_7cf53 : ByteArray := prog_22_method_69_code
def yJ9_min_7cf53 : MethodName := ⟨RJ9, "min", "(II)I"⟩
def RJ0 : String := "java/lang/String"
def TJ0 : u_T := fun k => match k with
  | _ => ("", "", "", false)
def tyJ0 : Nat → FieldType := fun k => match k with
  | _ => .int
abbrev wsJ00 : List Cond := u_ws RJ0 TJ0 0
theorem nmJ0 : ∀ a, a < 0 → ∀ b, b < 0 → a ≠ b → (TJ0 a).2.1 ≠ (TJ0 b).2.1 := by decide +kernel
theorem tyJ0_ok : ∀ k, k < 0 → parseFieldDescriptor (TJ0 k).2.2.1 = some (tyJ0 k) := by decide +kernel
def RJ10 : String := "java/lang/System"
def TJ10 : u_T := fun k => match k with
  | _ => ("", "", "", false)
def tyJ10 : Nat → FieldType := fun k => match k with
  | _ => .int
abbrev wsJ100 : List Cond := u_ws RJ10 TJ10 0
theorem nmJ10 : ∀ a, a < 0 → ∀ b, b < 0 → a ≠ b → (TJ10 a).2.1 ≠ (TJ10 b).2.1 := by decide +kernel
theorem tyJ10_ok : ∀ k, k < 0 → parseFieldDescriptor (TJ10 k).2.2.1 = some (tyJ10 k) := by decide +kernel
def RJxa1e45 : String := "java/util/AbstractCollection"
def TJxa1e45 : u_T := fun k => match k with
  | _ => ("", "", "", false)
def tyJxa1e45 : Nat → FieldType := fun k => match k with
  | _ => .int
abbrev wsJxa1e450 : List Cond := u_ws RJxa1e45 TJxa1e45 0
theorem nmJxa1e45 : ∀ a, a < 0 → ∀ b, b < 0 → a ≠ b → (TJxa1e45 a).2.1 ≠ (TJxa1e45 b).2.1 := by decide +kernel
theorem tyJxa1e45_ok : ∀ k, k < 0 → parseFieldDescriptor (TJxa1e45 k).2.2.1 = some (tyJxa1e45 k) := by decide +kernel
abbrev cJxa1e45_init_da8c8 : ByteArray := prog_27_method_1_code
def yJxa1e45_init_da8c8 : MethodName := ⟨RJxa1e45, "<init>", "()V"⟩
def RJxc12de : String := "java/util/AbstractList"
def TJxc12de : u_T := fun k => match k with
  | _ => ("", "", "", false)
def tyJxc12de : Nat → FieldType := fun k => match k with
  | _ => .int
abbrev wsJxc12de0 : List Cond := u_ws RJxc12de TJxc12de 0
theorem nmJxc12de : ∀ a, a < 0 → ∀ b, b < 0 → a ≠ b → (TJxc12de a).2.1 ≠ (TJxc12de b).2.1 := by decide +kernel
theorem tyJxc12de_ok : ∀ k, k < 0 → parseFieldDescriptor (TJxc12de k).2.2.1 = some (tyJxc12de k) := by decide +kernel
abbrev cJxc12de_init_da8c8 : ByteArray := prog_28_method_1_code
def yJxc12de_init_da8c8 : MethodName := ⟨RJxc12de, "<init>", "()V"⟩
def RJx4a65c : String := "java/util/ArrayList"
def TJx4a65c : u_T := fun k => match k with
  | 0 => ("java/util/AbstractList", "modCount", "I", false)
  | 1 => ("java/util/ArrayList", "elementData", "[Ljava/lang/Object;", false)
  | _ => ("java/util/ArrayList", "size", "I", false)
def tyJx4a65c : Nat → FieldType := fun k => match k with
  | 0 => .int
  | 1 => .array (.object "java/lang/Object")
  | _ => .int
abbrev wsJx4a65c0 : List Cond := u_ws RJx4a65c TJx4a65c 3
theorem nmJx4a65c : ∀ a, a < 3 → ∀ b, b < 3 → a ≠ b → (TJx4a65c a).2.1 ≠ (TJx4a65c b).2.1 := by decide +kernel
theorem tyJx4a65c_ok : ∀ k, k < 3 → parseFieldDescriptor (TJx4a65c k).2.2.1 = some (tyJx4a65c k) := by decide +kernel
abbrev cJx4a65c_init_da8c8 : ByteArray := prog_29_method_2_code
def yJx4a65c_init_da8c8 : MethodName := ⟨RJx4a65c, "<init>", "()V"⟩
abbrev cJx4a65c_grow_92f84 : ByteArray := prog_29_method_6_code
def yJx4a65c_grow_92f84 : MethodName := ⟨RJx4a65c, "grow", "(I)[Ljava/lang/Object;"⟩
abbrev cJx4a65c_grow_d5877 : ByteArray := prog_29_method_7_code
def yJx4a65c_grow_d5877 : MethodName := ⟨RJx4a65c, "grow", "()[Ljava/lang/Object;"⟩
abbrev cJx4a65c_size_8abf5 : ByteArray := prog_29_method_8_code
def yJx4a65c_size_8abf5 : MethodName := ⟨RJx4a65c, "size", "()I"⟩
abbrev cJx4a65c_isEmpty_aae02 : ByteArray := prog_29_method_9_code
def yJx4a65c_isEmpty_aae02 : MethodName := ⟨RJx4a65c, "isEmpty", "()Z"⟩
abbrev cJx4a65c_elementData_915e3 : ByteArray := prog_29_method_18_code
def yJx4a65c_elementData_915e3 : MethodName := ⟨RJx4a65c, "elementData", "(I)Ljava/lang/Object;"⟩
abbrev cJx4a65c_get_915e3 : ByteArray := prog_29_method_20_code
def yJx4a65c_get_915e3 : MethodName := ⟨RJx4a65c, "get", "(I)Ljava/lang/Object;"⟩
abbrev cJx4a65c_add_72be8 : ByteArray := prog_29_method_24_code
def yJx4a65c_add_72be8 : MethodName := ⟨RJx4a65c, "add", "(Ljava/lang/Object;[Ljava/lang/Object;I)V"⟩
abbrev cJx4a65c_add_9ea2d : ByteArray := prog_29_method_25_code
def yJx4a65c_add_9ea2d : MethodName := ⟨RJx4a65c, "add", "(Ljava/lang/Object;)Z"⟩
abbrev cJx4a65c_remove_915e3 : ByteArray := prog_29_method_29_code
def yJx4a65c_remove_915e3 : MethodName := ⟨RJx4a65c, "remove", "(I)Ljava/lang/Object;"⟩
abbrev cJx4a65c_fastRemove_b59b0 : ByteArray := prog_29_method_39_code
def yJx4a65c_fastRemove_b59b0 : MethodName := ⟨RJx4a65c, "fastRemove", "([Ljava/lang/Object;I)V"⟩
abbrev cJx4a65c_clear_da8c8 : ByteArray := prog_29_method_40_code
def yJx4a65c_clear_da8c8 : MethodName := ⟨RJx4a65c, "clear", "()V"⟩
def RJ7 : String := "java/util/Arrays"
def TJ7 : u_T := fun k => match k with
  | _ => ("", "", "", false)
def tyJ7 : Nat → FieldType := fun k => match k with
  | _ => .int
abbrev wsJ70 : List Cond := u_ws RJ7 TJ7 0
theorem nmJ7 : ∀ a, a < 0 → ∀ b, b < 0 → a ≠ b → (TJ7 a).2.1 ≠ (TJ7 b).2.1 := by decide +kernel
theorem tyJ7_ok : ∀ k, k < 0 → parseFieldDescriptor (TJ7 k).2.2.1 = some (tyJ7 k) := by decide +kernel
abbrev cJ7_copyOf_1904c : ByteArray := prog_30_method_119_code
def yJ7_copyOf_1904c : MethodName := ⟨RJ7, "copyOf", "([Ljava/lang/Object;I)[Ljava/lang/Object;"⟩
abbrev cJ7_copyOf_6403c : ByteArray := prog_30_method_120_code
def yJ7_copyOf_6403c : MethodName := ⟨RJ7, "copyOf", "([Ljava/lang/Object;ILjava/lang/Class;)[Ljava/lang/Object;"⟩
def RJx5ef63 : String := "java/util/Collection"
def TJx5ef63 : u_T := fun k => match k with
  | _ => ("", "", "", false)
def tyJx5ef63 : Nat → FieldType := fun k => match k with
  | _ => .int
abbrev wsJx5ef630 : List Cond := u_ws RJx5ef63 TJx5ef63 0
theorem nmJx5ef63 : ∀ a, a < 0 → ∀ b, b < 0 → a ≠ b → (TJx5ef63 a).2.1 ≠ (TJx5ef63 b).2.1 := by decide +kernel
theorem tyJx5ef63_ok : ∀ k, k < 0 → parseFieldDescriptor (TJx5ef63 k).2.2.1 = some (tyJx5ef63 k) := by decide +kernel
def RJxbd725 : String := "java/util/List"
def TJxbd725 : u_T := fun k => match k with
  | _ => ("", "", "", false)
def tyJxbd725 : Nat → FieldType := fun k => match k with
  | _ => .int
abbrev wsJxbd7250 : List Cond := u_ws RJxbd725 TJxbd725 0
theorem nmJxbd725 : ∀ a, a < 0 → ∀ b, b < 0 → a ≠ b → (TJxbd725 a).2.1 ≠ (TJxbd725 b).2.1 := by decide +kernel
theorem tyJxbd725_ok : ∀ k, k < 0 → parseFieldDescriptor (TJxbd725 k).2.2.1 = some (tyJxbd725 k) := by decide +kernel
def RJ15 : String := "java/util/Objects"
def TJ15 : u_T := fun k => match k with
  | _ => ("", "", "", false)
def tyJ15 : Nat → FieldType := fun k => match k with
  | _ => .int
abbrev wsJ150 : List Cond := u_ws RJ15 TJ15 0
theorem nmJ15 : ∀ a, a < 0 → ∀ b, b < 0 → a ≠ b → (TJ15 a).2.1 ≠ (TJ15 b).2.1 := by decide +kernel
theorem tyJ15_ok : ∀ k, k < 0 → parseFieldDescriptor (TJ15 k).2.2.1 = some (tyJ15 k) := by decide +kernel
abbrev cJ15_checkIndex_7cf53 : ByteArray := prog_33_method_17_code
def yJ15_checkIndex_7cf53 : MethodName := ⟨RJ15, "checkIndex", "(II)I"⟩
def RJxf0a74 : String := "java/util/RandomAccess"
def TJxf0a74 : u_T := fun k => match k with
  | _ => ("", "", "", false)
def tyJxf0a74 : Nat → FieldType := fun k => match k with
  | _ => .int
abbrev wsJxf0a740 : List Cond := u_ws RJxf0a74 TJxf0a74 0
theorem nmJxf0a74 : ∀ a, a < 0 → ∀ b, b < 0 → a ≠ b → (TJxf0a74 a).2.1 ≠ (TJxf0a74 b).2.1 := by decide +kernel
theorem tyJxf0a74_ok : ∀ k, k < 0 → parseFieldDescriptor (TJxf0a74 k).2.2.1 = some (tyJxf0a74 k) := by decide +kernel
def RJxa66e6 : String := "java/util/SequencedCollection"
def TJxa66e6 : u_T := fun k => match k with
  | _ => ("", "", "", false)
def tyJxa66e6 : Nat → FieldType := fun k => match k with
  | _ => .int
abbrev wsJxa66e60 : List Cond := u_ws RJxa66e6 TJxa66e6 0
theorem nmJxa66e6 : ∀ a, a < 0 → ∀ b, b < 0 → a ≠ b → (TJxa66e6 a).2.1 ≠ (TJxa66e6 b).2.1 := by decide +kernel
theorem tyJxa66e6_ok : ∀ k, k < 0 → parseFieldDescriptor (TJxa66e6 k).2.2.1 = some (tyJxa66e6 k) := by decide +kernel
def RJ8 : String := "jdk/internal/util/ArraysSupport"
def TJ8 : u_T := fun k => match k with
  | _ => ("", "", "", false)
def tyJ8 : Nat → FieldType := fun k => match k with
  | _ => .int
abbrev wsJ80 : List Cond := u_ws RJ8 TJ8 0
theorem nmJ8 : ∀ a, a < 0 → ∀ b, b < 0 → a ≠ b → (TJ8 a).2.1 ≠ (TJ8 b).2.1 := by decide +kernel
theorem tyJ8_ok : ∀ k, k < 0 → parseFieldDescriptor (TJ8 k).2.2.1 = some (tyJ8 k) := by decide +kernel
abbrev cJ8_newLength_cabcc : ByteArray := prog_36_method_27_code
def yJ8_newLength_cabcc : MethodName := ⟨RJ8, "newLength", "(III)I"⟩
abbrev cJ8_hugeLength_7cf53 : ByteArray := prog_36_method_28_code
def yJ8_hugeLength_7cf53 : MethodName := ⟨RJ8, "hugeLength", "(II)I"⟩
def RJ3 : String := "jdk/internal/util/Preconditions"
def TJ3 : u_T := fun k => match k with
  | _ => ("", "", "", false)
def tyJ3 : Nat → FieldType := fun k => match k with
  | _ => .int
abbrev wsJ30 : List Cond := u_ws RJ3 TJ3 0
theorem nmJ3 : ∀ a, a < 0 → ∀ b, b < 0 → a ≠ b → (TJ3 a).2.1 ≠ (TJ3 b).2.1 := by decide +kernel
theorem tyJ3_ok : ∀ k, k < 0 → parseFieldDescriptor (TJ3 k).2.2.1 = some (tyJ3 k) := by decide +kernel
abbrev cJ3_checkIndex_8e157 : ByteArray := prog_37_method_11_code
def yJ3_checkIndex_8e157 : MethodName := ⟨RJ3, "checkIndex", "(IILjava/util/function/BiFunction;)I"⟩
def RL : String := "ShadowWardLaw"
abbrev cL_cell : ByteArray := method_2_code
def yL_cell : MethodName := ⟨RL, "cell", "([II)I"⟩
abbrev cL_global : ByteArray := method_3_code
def yL_global : MethodName := ⟨RL, "global", "(LShadowWard;I[J)I"⟩
abbrev cL_enter : ByteArray := method_4_code
def yL_enter : MethodName := ⟨RL, "enter", "(LShadowWard;IIII[J)I"⟩
abbrev cL_leave : ByteArray := method_5_code
def yL_leave : MethodName := ⟨RL, "leave", "(LShadowWard;[J)I"⟩
abbrev cL_scope : ByteArray := method_6_code
def yL_scope : MethodName := ⟨RL, "scope", "(LShadowWard;IIZ[J)I"⟩
abbrev cL_variable : ByteArray := method_7_code
def yL_variable : MethodName := ⟨RL, "variable", "(LShadowWard;II[J)I"⟩
abbrev cL_allocate : ByteArray := method_8_code
def yL_allocate : MethodName := ⟨RL, "allocate", "(LShadowWard;III[J)I"⟩
abbrev cL_free : ByteArray := method_9_code
def yL_free : MethodName := ⟨RL, "free", "(LShadowWard;III[J)I"⟩
abbrev cL_resize : ByteArray := method_10_code
def yL_resize : MethodName := ⟨RL, "resize", "(LShadowWard;III[J)I"⟩
abbrev cL_load : ByteArray := method_11_code
def yL_load : MethodName := ⟨RL, "load", "(LShadowWard;II[J)I"⟩
abbrev cL_store : ByteArray := method_12_code
def yL_store : MethodName := ⟨RL, "store", "(LShadowWard;IIJ[J)I"⟩
abbrev cL_fill : ByteArray := method_13_code
def yL_fill : MethodName := ⟨RL, "fill", "(LShadowWard;III[J)I"⟩
abbrev cL_copy : ByteArray := method_14_code
def yL_copy : MethodName := ⟨RL, "copy", "(LShadowWard;IIIZ[J)I"⟩
abbrev cL_compare : ByteArray := method_15_code
def yL_compare : MethodName := ⟨RL, "compare", "(LShadowWard;III[J)I"⟩
abbrev cL_lock : ByteArray := method_16_code
def yL_lock : MethodName := ⟨RL, "lock", "(LShadowWard;II[J)I"⟩
abbrev cL_unlock : ByteArray := method_17_code
def yL_unlock : MethodName := ⟨RL, "unlock", "(LShadowWard;II[J)I"⟩
abbrev cL_report : ByteArray := method_18_code
def yL_report : MethodName := ⟨RL, "report", "(LShadowWard;II[J)I"⟩
abbrev cL_block : ByteArray := method_19_code
def yL_block : MethodName := ⟨RL, "block", "(LShadowWard;II[J)I"⟩
abbrev cL_shadow : ByteArray := method_20_code
def yL_shadow : MethodName := ⟨RL, "shadow", "(LShadowWard;I[J)I"⟩
abbrev cL_peek : ByteArray := method_21_code
def yL_peek : MethodName := ⟨RL, "peek", "(LShadowWard;I[J)I"⟩
abbrev cL_held : ByteArray := method_22_code
def yL_held : MethodName := ⟨RL, "held", "(LShadowWard;I[J)I"⟩
abbrev cL_told : ByteArray := method_23_code
def yL_told : MethodName := ⟨RL, "told", "(LShadowWard;I[J)I"⟩
abbrev cL_law : ByteArray := code
def yL_law : MethodName := ⟨RL, "law", "([I)Z"⟩
abbrev vwCl : List vw_C := [(RJx4a65c, TJx4a65c, 3), (RX0, TX0, 13), (RX1, TX1, 3), (RX2, TX2, 2), (RX3, TX3, 2), (RX4, TX4, 8), (RX5, TX5, 5), (RX6, TX6, 5), (RX7, TX7, 7), (RX8, TX8, 10), (RX9, TX9, 8), (RX10, TX10, 6), (RX11, TX11, 30)]
end
section
/-! THE PURE LAYER: a heap is a map from addresses to cells, a frame's locals and operands are lists; every row here is the kit's row, said over them. -/
abbrev zHp : Type := (Nat → Option va_E) × Nat × Nat
abbrev zRs : Type := Option Value ⊕ String
abbrev zCx : Type := Launch × State × Array Value × va_G × (Nat → ClassId)
abbrev zEn : Type := Nat × Instr × Nat × Int32 × Nat
abbrev zMI : Type := MethodName × ByteArray × Nat × Option FieldType × List (Nat × List zEn) × List (Nat × Nat × Nat × Nat)
abbrev zLo : Type := List (Option Value)
abbrev zl (X : zCx) : Launch := X.1
abbrev zs (X : zCx) : State := X.2.1
abbrev za (X : zCx) : Array Value := X.2.2.1
abbrev zD (X : zCx) : va_G := X.2.2.2.1
abbrev zA (X : zCx) : Nat → ClassId := X.2.2.2.2
abbrev zB (X : zCx) : Nat := X.2.1.heap.size
abbrev zNm (M : zMI) : MethodName := M.1
abbrev zCd (M : zMI) : ByteArray := M.2.1
abbrev zNL (M : zMI) : Nat := M.2.2.1
abbrev zRt (M : zMI) : Option FieldType := M.2.2.2.1
abbrev zFt (M : zMI) : List (Nat × List zEn) := M.2.2.2.2.1
abbrev zHh (M : zMI) : List (Nat × Nat × Nat × Nat) := M.2.2.2.2.2
def zTy : Nat → FieldType := fun k => match k with
  | 0 => .int
  | 1 => .long
  | 2 => .byte
  | 3 => .boolean
  | 4 => .object "java/lang/Object"
  | _ => .object "ShadowWard$Block"
def zTys (X : zCx) : List (ClassId × FieldType) := (List.range 6).map (fun k => (zA X k, zTy k))
/-- what holds of the start: the tables' words, the classes' numbers, no stack traces, what the Statement gives -/
def zG (X : zCx) : Prop := (∀ w ∈ lw_tbl, w.before (za X) (zs X) = true) ∧ va_K (zD X) vwCl (zTys X) (zs X) ∧ (zl X).stackTraces = false ∧ (Jvm.Cond.and given_1 narrow_1).before (za X) (zs X) = true
theorem zw {X : zCx} (G : zG X) {s : State} {args : Array Value} (hW : (zs X).WarmedH s.vm) {w : Jvm.Cond} (hm : w ∈ lw_tbl) (hg : goodWord w = true) : w.before args s = true := word_at hW (good_of_word hg) (G.1 w hm)
theorem zKs {X : zCx} (G : zG X) {s : State} (hW : (zs X).WarmedH s.vm) : va_K (zD X) vwCl (zTys X) s := va_K.moved hW.alike G.2.1
theorem zTys_at (X : zCx) {k : Nat} (hk : k < 6) : (zTys X)[k]? = some (zA X k, zTy k) := by
  unfold zTys
  rw [List.getElem?_map, List.getElem?_range hk]
  rfl
/-! heaps -/
def zset (h : zHp) (a : Nat) (e : va_E) : zHp := (fun b => if b = a then some e else h.1 b, h.2.1, h.2.2)
def znew (h : zHp) (e : va_E) (k : Nat) : zHp := (fun b => if b = h.2.1 then some e else h.1 b, h.2.1 + 1, h.2.2 + k)
def zadd (h : zHp) (c k : Nat) : zHp := (h.1, h.2.1 + c, h.2.2 + k)
def zLim (X : zCx) (h : zHp) : Prop := h.2.1 ≤ zB X + 601024 ∧ h.2.2 ≤ 7293000
def zR (X : zCx) (h : zHp) (H : Heap) : Prop := H.size = h.2.1 ∧ zB X ≤ H.size ∧ (∀ q : Nat, q < zB X → H[q]? = (zs X).heap[q]?) ∧ (∀ (a : Nat) (e : va_E), h.1 a = some e → zB X ≤ a ∧ va_at (zD X) vwCl (a, e) H) ∧ zLim X h
theorem zR.at {X : zCx} {h : zHp} {H : Heap} (r : zR X h H) {a : Nat} {e : va_E} (ha : h.1 a = some e) : va_P (zD X) vwCl [(a, e)] H := by
  intro k q hq
  match k, hq with
  | 0, hq => cases hq; exact (r.2.2.2.1 a e ha).2
  | k + 1, hq => simp at hq
theorem zR.put {X : zCx} {h : zHp} {H H1 : Heap} (r : zR X h H) {a : Nat} {e : va_E} (hb : zB X ≤ a) (h1 : va_at (zD X) vwCl (a, e) H1) (z : H1.size = H.size) (o : ∀ q : Nat, q ≠ a → H1[q]? = H[q]?) : zR X (zset h a e) H1 := by
  refine ⟨z.trans r.1, by rw [z]; exact r.2.1, fun q hq => ?_, fun b e' hb' => ?_, r.2.2.2.2⟩
  · rw [o q (by omega)]
    exact r.2.2.1 q hq
  · have hb2 : (if b = a then some e else h.1 b) = some e' := hb'
    by_cases c : b = a
    · subst c
      rw [if_pos rfl] at hb2
      cases hb2
      exact ⟨hb, h1⟩
    · rw [if_neg c] at hb2
      obtain ⟨g1, g2⟩ := r.2.2.2.1 b e' hb2
      exact ⟨g1, va_at.kept g2 (o b c)⟩
theorem zR.new {X : zCx} {h : zHp} {H H1 : Heap} (r : zR X h H) {e : va_E} (k : Nat) (h1 : va_at (zD X) vwCl (h.2.1, e) H1) (z : H1.size = H.size + 1) (o : ∀ q : Nat, q < H.size → H1[q]? = H[q]?) (hl : zLim X (znew h e k)) : zR X (znew h e k) H1 := by
  have r1 := r.1
  have r2 := r.2.1
  refine ⟨by show H1.size = h.2.1 + 1; omega, by omega, fun q hq => ?_, fun b e' hb' => ?_, hl⟩
  · rw [o q (by omega)]
    exact r.2.2.1 q hq
  · have hb2 : (if b = h.2.1 then some e else h.1 b) = some e' := hb'
    by_cases c : b = h.2.1
    · subst c
      rw [if_pos rfl] at hb2
      cases hb2
      exact ⟨by omega, h1⟩
    · rw [if_neg c] at hb2
      obtain ⟨g1, g2⟩ := r.2.2.2.1 b e' hb2
      exact ⟨g1, va_at.kept g2 (o b (by have := g2.lt; exact this))⟩
theorem zR.more {X : zCx} {h : zHp} {H H1 : Heap} (r : zR X h H) (c k : Nat) (z : H1.size = H.size + c) (o : ∀ q : Nat, q < H.size → H1[q]? = H[q]?) (hl : zLim X (zadd h c k)) : zR X (zadd h c k) H1 := by
  have r1 := r.1
  have r2 := r.2.1
  refine ⟨by show H1.size = h.2.1 + c; omega, by omega, fun q hq => ?_, fun b e' hb' => ?_, hl⟩
  · rw [o q (by omega)]
    exact r.2.2.1 q hq
  · obtain ⟨g1, g2⟩ := r.2.2.2.1 b e' hb'
    exact ⟨g1, va_at.kept g2 (o b g2.lt)⟩
/-! locals -/
def zget : zLo → Nat → Option Value
  | [], _ => none
  | x :: _, 0 => x
  | _ :: r, i + 1 => zget r i
def zput : zLo → Nat → Option Value → zLo
  | [], _, _ => []
  | _ :: r, 0, v => v :: r
  | x :: r, i + 1, v => x :: zput r i v
def zin : zLo → Nat → Bool
  | [], _ => false
  | _ :: _, 0 => true
  | _ :: r, i + 1 => zin r i
def zlg : Option Value → Bool
  | some (.long _) => true
  | some (.double _) => true
  | _ => false
def zkill : zLo → Nat → zLo
  | [], _ => []
  | x :: r, 0 => x :: r
  | x :: r, 1 => (match zlg x with
    | true => none :: r
    | false => x :: r)
  | x :: r, j + 2 => x :: zkill r (j + 1)
def zst1 (L : zLo) (i : Nat) (v : Value) : zLo := zput (zkill L i) i (some v)
def zst2 (L : zLo) (i : Nat) (v : Value) : zLo := zput (zput (zkill L i) i (some v)) (i + 1) none
def zfc {α : Type} : zLo → (zLo → α) → α
  | [], k => k []
  | x :: r, k => zfc r (fun r' => k (x :: r'))
theorem zfc_eq {α : Type} (L : zLo) (k : zLo → α) : zfc L k = k L := by
  induction L generalizing k with
  | nil => rfl
  | cons x r ih => exact ih _
theorem zget_put (L : zLo) (i j : Nat) (v : Option Value) : zget (zput L i v) j = if j = i ∧ zin L i = true then v else zget L j := by
  induction L generalizing i j with
  | nil => simp [zput, zget, zin]
  | cons x r ih =>
    cases i with
    | zero => cases j <;> simp [zput, zget, zin]
    | succ i =>
      cases j with
      | zero => simp [zput, zget]
      | succ j => simp [zput, zget, zin, ih]
theorem zin_put (L : zLo) (i j : Nat) (v : Option Value) : zin (zput L i v) j = zin L j := by
  induction L generalizing i j with
  | nil => rfl
  | cons x r ih =>
    cases i with
    | zero => cases j <;> rfl
    | succ i => cases j with
      | zero => rfl
      | succ j => exact ih i j
theorem zin_len {L : zLo} {i : Nat} : zin L i = true ↔ i < L.length := by
  induction L generalizing i with
  | nil => simp [zin]
  | cons x r ih => cases i with
    | zero => simp [zin]
    | succ i => simp [zin, ih]
theorem zput_len (L : zLo) (i : Nat) (v : Option Value) : (zput L i v).length = L.length := by
  induction L generalizing i with
  | nil => rfl
  | cons x r ih => cases i with
    | zero => rfl
    | succ i => simp [zput, ih]
theorem zkill_len (L : zLo) (i : Nat) : (zkill L i).length = L.length := by
  induction L generalizing i with
  | nil => rfl
  | cons x r ih =>
    match i with
    | 0 => rfl
    | 1 => cases h : zlg x <;> simp [zkill, h]
    | j + 2 => simp [zkill, ih]
theorem zlg_cat {v : Value} (h : zlg (some v) = false) : v.category = 1 := by cases v <;> simp_all [zlg, Value.category]
theorem zkill_get {L : zLo} {i j : Nat} {v : Value} (h : zget (zkill L i) j = some v) : zget L j = some v ∧ (j + 1 = i → v.category = 1) := by
  induction L generalizing i j with
  | nil => simp [zkill, zget] at h
  | cons x r ih =>
    match i with
    | 0 => exact ⟨h, fun q => by omega⟩
    | 1 =>
      cases hx : zlg x with
      | true =>
        simp only [zkill, hx] at h
        cases j with
        | zero => simp [zget] at h
        | succ j => exact ⟨h, fun q => by omega⟩
      | false =>
        simp only [zkill, hx] at h
        refine ⟨h, fun q => ?_⟩
        have : j = 0 := by omega
        subst this
        have hv : x = some v := h
        rw [hv] at hx
        exact zlg_cat hx
    | k + 2 =>
      cases j with
      | zero => exact ⟨h, fun q => by omega⟩
      | succ j =>
        obtain ⟨g1, g2⟩ := ih (i := k + 1) (j := j) h
        exact ⟨g1, fun q => g2 (by omega)⟩
/-- the machine's locals hold what the list says -/
def zLs (ls : Array Slot) (nL : Nat) (L : zLo) : Prop := L.length = nL ∧ ∃ l, lv_has ls nL l ∧ ∀ i v, zget L i = some v → (i, v) ∈ l
theorem zLs.at {ls : Array Slot} {nL : Nat} {L : zLo} (h : zLs ls nL L) {i : Nat} {v : Value} (hi : zget L i = some v) : ls[i]? = some (.val v) := by
  obtain ⟨-, l, h1, h2⟩ := h
  exact h1.2.2 (i, v) (h2 i v hi)
theorem zLs.st1 {ls : Array Slot} {nL : Nat} {L : zLo} (h : zLs ls nL L) {i : Nat} {v : Value} (hc : v.category = 1) (hi : zin L i = true) : ∃ l, lv_has ls nL l ∧ i < nL ∧ ∀ ls', lv_has ls' nL ((i, v) :: l.filter (fun q => !(q.1 == i) && !(q.1 + 1 == i && q.2.category == 2))) → zLs ls' nL (zst1 L i v) := by
  obtain ⟨h0, l, h1, h2⟩ := h
  have hi' := zin_len.mp hi
  refine ⟨l, h1, by omega, fun ls' h' => ⟨by unfold zst1; rw [zput_len, zkill_len]; exact h0, _, h', fun j w hj => ?_⟩⟩
  unfold zst1 at hj
  rw [zget_put] at hj
  split at hj
  · rename_i e
    cases hj
    rw [e.1]
    exact List.mem_cons_self
  · rename_i e
    obtain ⟨g1, g2⟩ := zkill_get hj
    have hne : j ≠ i := fun q => e ⟨q, by rw [zin_len, zkill_len]; omega⟩
    refine List.mem_cons_of_mem _ (List.mem_filter.mpr ⟨h2 j w g1, ?_⟩)
    by_cases q : j + 1 = i
    · have := g2 q
      simp [hne, this]
    · simp [hne, q]
theorem zLs.st2 {ls : Array Slot} {nL : Nat} {L : zLo} (h : zLs ls nL L) {i : Nat} {v : Value} (hc : v.category = 2) (hi : zin L (i + 1) = true) : ∃ l, lv_has ls nL l ∧ i + 1 < nL ∧ ∀ ls', lv_has ls' nL ((i, v) :: l.filter (fun q => !(q.1 == i) && (!(q.1 == i + 1) && !(q.1 + 1 == i && q.2.category == 2)))) → zLs ls' nL (zst2 L i v) := by
  obtain ⟨h0, l, h1, h2⟩ := h
  have hi' := zin_len.mp hi
  refine ⟨l, h1, by omega, fun ls' h' => ⟨by unfold zst2; rw [zput_len, zput_len, zkill_len]; exact h0, _, h', fun j w hj => ?_⟩⟩
  unfold zst2 at hj
  rw [zget_put] at hj
  split at hj
  · cases hj
  · rename_i e0
    have hj1 : j ≠ i + 1 := fun q => e0 ⟨q, by rw [zin_len, zput_len, zkill_len]; omega⟩
    rw [zget_put] at hj
    split at hj
    · rename_i e
      cases hj
      rw [e.1]
      exact List.mem_cons_self
    · rename_i e
      obtain ⟨g1, g2⟩ := zkill_get hj
      have hne : j ≠ i := fun q => e ⟨q, by rw [zin_len, zkill_len]; omega⟩
      refine List.mem_cons_of_mem _ (List.mem_filter.mpr ⟨h2 j w g1, ?_⟩)
      by_cases q : j + 1 = i
      · have := g2 q
        simp [hne, hj1, this]
      · simp [hne, hj1, q]
end
section
/-! a method's table: pc, instruction, next pc, literal, target; in runs with an upper bound each -/
def zlkE : List zEn → Nat → Option zEn
  | [], _ => none
  | e :: r, pc => match Nat.beq e.1 pc with
    | true => some e
    | false => zlkE r pc
def zlk : List (Nat × List zEn) → Nat → Option zEn
  | [], _ => none
  | q :: r, pc => match Nat.blt pc q.1 with
    | true => zlkE q.2 pc
    | false => zlk r pc
def zlen : Instr → Nat
  | .bipush _ => 2
  | .iload _ => 2
  | .lload _ => 2
  | .aload _ => 2
  | .istore _ => 2
  | .lstore _ => 2
  | .astore _ => 2
  | .ldc _ => 2
  | .newarray _ => 2
  | .sipush _ => 3
  | .iinc _ _ => 3
  | .goto _ => 3
  | .ifCond _ _ => 3
  | .if_icmp _ _ => 3
  | .if_acmp _ _ => 3
  | .ifnull _ => 3
  | .ifnonnull _ => 3
  | .getfield _ => 3
  | .putfield _ => 3
  | .getstatic _ => 3
  | .invokevirtual _ => 3
  | .invokespecial _ => 3
  | .invokestatic _ => 3
  | .new _ => 3
  | .anewarray _ => 3
  | .checkcast _ => 3
  | .ldc2_w _ => 3
  | .tableswitch _ _ _ _ => 0
  | .lookupswitch _ _ => 0
  | _ => 1
def zlit (pc : Nat) (ins : Instr) (v : Int32) (t : Nat) : Bool := match ins with
  | .iconst n => decide (Int32.ofInt n = v)
  | .bipush n => decide ((Int8.ofInt n).toInt32 = v)
  | .sipush n => decide ((Int16.ofInt n).toInt32 = v)
  | .iinc _ n => decide (Int32.ofInt n = v)
  | .goto o => decide ((pc : Int) + o = (t : Int))
  | .ifCond _ o => decide ((pc : Int) + o = (t : Int))
  | .if_icmp _ o => decide ((pc : Int) + o = (t : Int))
  | .if_acmp _ o => decide ((pc : Int) + o = (t : Int))
  | .ifnull o => decide ((pc : Int) + o = (t : Int))
  | .ifnonnull o => decide ((pc : Int) + o = (t : Int))
  | _ => true
def zchk (cc : ByteArray) (e : zEn) : Bool := decide (decode cc e.1 = .ok (e.2.1, e.2.2.1 - e.1)) && (decide (zlen e.2.1 = 0) || decide (e.2.2.1 = e.1 + zlen e.2.1)) && zlit e.1 e.2.1 e.2.2.2.1 e.2.2.2.2
def zMOK (M : zMI) : Prop := ∀ q ∈ zFt M, ∀ e ∈ q.2, zchk (zCd M) e = true
theorem zlkE_ok {l : List zEn} {pc : Nat} {e : zEn} (h : zlkE l pc = some e) : e.1 = pc ∧ e ∈ l := by
  induction l with
  | nil => cases h
  | cons a r ih =>
    simp only [zlkE] at h
    split at h
    · rename_i c
      cases h
      exact ⟨Nat.eq_of_beq_eq_true c, List.mem_cons_self⟩
    · obtain ⟨g1, g2⟩ := ih h
      exact ⟨g1, List.mem_cons_of_mem _ g2⟩
theorem zlk_ok {l : List (Nat × List zEn)} {pc : Nat} {e : zEn} (h : zlk l pc = some e) : e.1 = pc ∧ ∃ q ∈ l, e ∈ q.2 := by
  induction l with
  | nil => cases h
  | cons a r ih =>
    simp only [zlk] at h
    split at h
    · obtain ⟨g1, g2⟩ := zlkE_ok h
      exact ⟨g1, a, List.mem_cons_self, g2⟩
    · obtain ⟨g1, q, g2, g3⟩ := ih h
      exact ⟨g1, q, List.mem_cons_of_mem _ g2, g3⟩
theorem zdc {M : zMI} (hM : zMOK M) {pc : Nat} {e : zEn} (h : zlk (zFt M) pc = some e) : decode (zCd M) pc = .ok (e.2.1, e.2.2.1 - pc) ∧ (zlen e.2.1 = 0 ∨ e.2.2.1 = pc + zlen e.2.1) ∧ zlit pc e.2.1 e.2.2.2.1 e.2.2.2.2 = true := by
  obtain ⟨g1, q, g2, g3⟩ := zlk_ok h
  have g := hM q g2 e g3
  simp only [zchk, Bool.and_eq_true, Bool.or_eq_true, decide_eq_true_eq] at g
  rw [g1] at g
  exact ⟨g.1.1, g.1.2, g.2⟩
theorem zdn {M : zMI} (hM : zMOK M) {pc : Nat} {ins : Instr} {nx : Nat} {v : Int32} {t p0 : Nat} (h : zlk (zFt M) pc = some (p0, ins, nx, v, t)) {n : Nat} (hn : zlen ins = n + 1) : decode (zCd M) pc = .ok (ins, n + 1) ∧ nx = pc + (n + 1) ∧ zlit pc ins v t = true := by
  obtain ⟨h1, h2, h3⟩ := zdc hM h
  dsimp only at h1 h2 h3
  rcases h2 with h2 | h2
  · omega
  · rw [hn] at h2
    subst h2
    rw [show pc + (n + 1) - pc = n + 1 by omega] at h1
    exact ⟨h1, rfl, h3⟩
def zc1 : Value → Bool
  | .long _ => false
  | .double _ => false
  | _ => true
theorem zc1_ok {v : Value} (h : zc1 v = true) : v.category = 1 := by cases v <;> simp_all [zc1, Value.category]
/-- an instruction that asks nothing of the heap -/
def zstp (e : zEn) (L : zLo) (st : List Value) : Option (Nat × zLo × List Value) :=
  match e.2.1 with
  | .iconst _ => some (e.2.2.1, L, .int e.2.2.2.1 :: st)
  | .bipush _ => some (e.2.2.1, L, .int e.2.2.2.1 :: st)
  | .sipush _ => some (e.2.2.1, L, .int e.2.2.2.1 :: st)
  | .lconst k => (match k.val with
    | 0 => some (e.2.2.1, L, .long 0 :: st)
    | _ => some (e.2.2.1, L, .long 1 :: st))
  | .aconst_null => some (e.2.2.1, L, .null :: st)
  | .iload i => (match zget L i with
    | some (.int x) => some (e.2.2.1, L, .int x :: st)
    | _ => none)
  | .iload_n k => (match zget L k.val with
    | some (.int x) => some (e.2.2.1, L, .int x :: st)
    | _ => none)
  | .lload i => (match zget L i with
    | some (.long x) => some (e.2.2.1, L, .long x :: st)
    | _ => none)
  | .lload_n k => (match zget L k.val with
    | some (.long x) => some (e.2.2.1, L, .long x :: st)
    | _ => none)
  | .aload i => (match zget L i with
    | some (.ref x) => some (e.2.2.1, L, .ref x :: st)
    | some .null => some (e.2.2.1, L, .null :: st)
    | _ => none)
  | .aload_n k => (match zget L k.val with
    | some (.ref x) => some (e.2.2.1, L, .ref x :: st)
    | some .null => some (e.2.2.1, L, .null :: st)
    | _ => none)
  | .istore i => (match zin L i, st with
    | true, .int x :: r => zfc (zst1 L i (.int x)) (fun L' => some (e.2.2.1, L', r))
    | _, _ => none)
  | .istore_n k => (match zin L k.val, st with
    | true, .int x :: r => zfc (zst1 L k.val (.int x)) (fun L' => some (e.2.2.1, L', r))
    | _, _ => none)
  | .lstore i => (match zin L (i + 1), st with
    | true, .long x :: r => zfc (zst2 L i (.long x)) (fun L' => some (e.2.2.1, L', r))
    | _, _ => none)
  | .lstore_n k => (match zin L (k.val + 1), st with
    | true, .long x :: r => zfc (zst2 L k.val (.long x)) (fun L' => some (e.2.2.1, L', r))
    | _, _ => none)
  | .astore i => (match zin L i, st with
    | true, .ref x :: r => zfc (zst1 L i (.ref x)) (fun L' => some (e.2.2.1, L', r))
    | true, .null :: r => zfc (zst1 L i .null) (fun L' => some (e.2.2.1, L', r))
    | _, _ => none)
  | .astore_n k => (match zin L k.val, st with
    | true, .ref x :: r => zfc (zst1 L k.val (.ref x)) (fun L' => some (e.2.2.1, L', r))
    | true, .null :: r => zfc (zst1 L k.val .null) (fun L' => some (e.2.2.1, L', r))
    | _, _ => none)
  | .iinc i _ => (match zin L i, zget L i with
    | true, some (.int x) => zfc (zst1 L i (.int (x + e.2.2.2.1))) (fun L' => some (e.2.2.1, L', st))
    | _, _ => none)
  | .goto _ => some (e.2.2.2.2, L, st)
  | .ifnull _ => (match st with
    | .ref _ :: r => some (e.2.2.1, L, r)
    | .null :: r => some (e.2.2.2.2, L, r)
    | _ => none)
  | .ifnonnull _ => (match st with
    | .ref _ :: r => some (e.2.2.2.2, L, r)
    | .null :: r => some (e.2.2.1, L, r)
    | _ => none)
  | .iadd => (match st with
    | .int y :: .int x :: r => some (e.2.2.1, L, .int (x + y) :: r)
    | _ => none)
  | .isub => (match st with
    | .int y :: .int x :: r => some (e.2.2.1, L, .int (x - y) :: r)
    | _ => none)
  | .imul => (match st with
    | .int y :: .int x :: r => some (e.2.2.1, L, .int (x * y) :: r)
    | _ => none)
  | .iand => (match st with
    | .int y :: .int x :: r => some (e.2.2.1, L, .int (x &&& y) :: r)
    | _ => none)
  | .ior => (match st with
    | .int y :: .int x :: r => some (e.2.2.1, L, .int (x ||| y) :: r)
    | _ => none)
  | .ishr => (match st with
    | .int y :: .int x :: r => some (e.2.2.1, L, .int (x >>> (y &&& 31)) :: r)
    | _ => none)
  | .ineg => (match st with
    | .int x :: r => some (e.2.2.1, L, .int (-x) :: r)
    | _ => none)
  | .ladd => (match st with
    | .long y :: .long x :: r => some (e.2.2.1, L, .long (x + y) :: r)
    | _ => none)
  | .lsub => (match st with
    | .long y :: .long x :: r => some (e.2.2.1, L, .long (x - y) :: r)
    | _ => none)
  | .lmul => (match st with
    | .long y :: .long x :: r => some (e.2.2.1, L, .long (x * y) :: r)
    | _ => none)
  | .land => (match st with
    | .long y :: .long x :: r => some (e.2.2.1, L, .long (x &&& y) :: r)
    | _ => none)
  | .lor => (match st with
    | .long y :: .long x :: r => some (e.2.2.1, L, .long (x ||| y) :: r)
    | _ => none)
  | .lneg => (match st with
    | .long x :: r => some (e.2.2.1, L, .long (-x) :: r)
    | _ => none)
  | .lshl => (match st with
    | .int y :: .long x :: r => some (e.2.2.1, L, .long (x <<< (y.toInt64 &&& 63)) :: r)
    | _ => none)
  | .lushr => (match st with
    | .int y :: .long x :: r => some (e.2.2.1, L, .long ((x.toUInt64 >>> (y.toInt64.toUInt64 &&& Int64.toUInt64 63)).toInt64) :: r)
    | _ => none)
  | .lcmp => (match st with
    | .long y :: .long x :: r => some (e.2.2.1, L, .int (lg_cmp x y) :: r)
    | _ => none)
  | .i2l => (match st with
    | .int x :: r => some (e.2.2.1, L, .long x.toInt64 :: r)
    | _ => none)
  | .l2i => (match st with
    | .long x :: r => some (e.2.2.1, L, .int x.toInt32 :: r)
    | _ => none)
  | .i2b => (match st with
    | .int x :: r => some (e.2.2.1, L, .int x.toInt8.toInt32 :: r)
    | _ => none)
  | .dup => (match st with
    | v :: r => (match zc1 v with
      | true => some (e.2.2.1, L, v :: v :: r)
      | false => none)
    | _ => none)
  | .pop => (match st with
    | v :: r => (match zc1 v with
      | true => some (e.2.2.1, L, r)
      | false => none)
    | _ => none)
  | .dup_x1 => (match st with
    | v :: w :: r => (match zc1 v, zc1 w with
      | true, true => some (e.2.2.1, L, v :: w :: v :: r)
      | _, _ => none)
    | _ => none)
  | _ => none
def zgo (ft : List (Nat × List zEn)) : Nat → Nat → zLo → List Value → Nat × zLo × List Value
  | 0, pc, L, st => (pc, L, st)
  | n + 1, pc, L, st => match zlk ft pc with
    | some e => (match zstp e L st with
      | some (p, L', s') => zgo ft n p L' s'
      | none => (pc, L, st))
    | none => (pc, L, st)
/-- the two roads of a comparison: target's, next's -/
def zbr (e : zEn) (st : List Value) : Option (Prop × Prop × List Value) :=
  match e.2.1 with
  | .ifCond c _ => (match st with
    | .int x :: r => (match c with
      | .eq => some (x = 0, ¬ x = 0, r)
      | .ne => some (¬ x = 0, x = 0, r)
      | .lt => some (x < 0, ¬ x < 0, r)
      | .ge => some (0 ≤ x, ¬ 0 ≤ x, r)
      | .gt => some (0 < x, ¬ 0 < x, r)
      | .le => some (x ≤ 0, ¬ x ≤ 0, r))
    | _ => none)
  | .if_icmp c _ => (match st with
    | .int y :: .int x :: r => (match c with
      | .eq => some (x = y, ¬ x = y, r)
      | .ne => some (¬ x = y, x = y, r)
      | .lt => some (x < y, ¬ x < y, r)
      | .ge => some (y ≤ x, ¬ y ≤ x, r)
      | .gt => some (y < x, ¬ y < x, r)
      | .le => some (x ≤ y, ¬ x ≤ y, r))
    | _ => none)
  | .if_acmp c _ => (match st with
    | .ref y :: .ref x :: r => (match c with
      | .eq => some (x = y, ¬ x = y, r)
      | .ne => some (¬ x = y, x = y, r))
    | _ => none)
  | _ => none
/-! what a method owes -/
def zO (X : zCx) (t : State) (r : zRs) (o : Outcome) : Prop := match r with
  | .inl v => o = .returned v
  | .inr E => ∃ (q : Nat) (ce : Cell), o = .threw q ∧ t.heap[q]? = some ce ∧ ce.vm = .none ∧ (zs X).vm.findClass E = some ce.cls
def zEnd (X : zCx) (n0 k0 : Nat) (st : State) (o : Outcome) (t : State) (Q : zRs → zHp → Prop) : Prop :=
  ∃ (r : zRs) (h' : zHp), zO X t r o ∧ Q r h' ∧ zR X h' t.heap ∧ n0 ≤ h'.2.1 ∧ k0 ≤ h'.2.2 ∧ st.WarmedH t.vm ∧ ∃ L : List Loc, st.sameButNew ({ t with vm := st.vm } : State) L (h'.2.1 - n0) (h'.2.2 - k0) ∧ ∀ q ∈ L, zB X ≤ q.base
def zF (X : zCx) (n0 k0 : Nat) (below : List Frame) (s : State) (Q : zRs → zHp → Prop) : State → Prop := fun t => ∃ o, t.status = .running ∧ Ended t below o ∧ zEnd X n0 k0 s o t Q
abbrev zFr : Type := Nat × Nat × Nat × Nat
def zRm (X : zCx) (f : zFr) : Room := { frames := f.1, cells := zB X + 601024 - f.2.2.1, slots := 7293000 - f.2.2.2, locals := f.2.1 }
def zE (X : zCx) (M : zMI) (n0 : Nat) (p : Program) (s : State) (m : MethodId) (meth : Method) (c : Code) : Prop :=
  zG X ∧ zMOK M ∧ p.tables.exec = Jvm.exec ∧ c.code = zCd M ∧ meth.sig.returnType = zRt M ∧ meth.locks = false ∧ c.maxLocals = zNL M ∧ s.vm.findClass (zNm M).cls = some m.cls ∧ (zs X).WarmedH s.vm ∧ s.heap.size = n0 ∧ meth.name = (zNm M).name ∧ c.exceptionTable.toList.map (fun h => (h.startPc, h.endPc, h.handlerPc, h.catchType)) = zHh M
/-- from here on the method comes to its end, with Q -/
def Z (X : zCx) (M : zMI) (f : zFr) (h : zHp) (pc : Nat) (L : zLo) (st : List Value) (Q : zRs → zHp → Prop) : Prop :=
  ∀ (p : Program) (e : Env) (s : State) (m : MethodId) (args : Array Value) (below : List Frame) (meth : Method) (c : Code) (H : Heap) (locs : List Loc) (ls : Array Slot),
    zE X M f.2.2.1 p s m meth c → zR X h H → f.2.2.1 ≤ h.2.1 → f.2.2.2 ≤ h.2.2 → (∀ q ∈ locs, zB X ≤ q.base) → zLs ls (zNL M) L →
    W p (zl X) e (zRm X f) s m args below meth c H locs (h.2.1 - f.2.2.1) (h.2.2 - f.2.2.2) (zF X f.2.2.1 f.2.2.2 below s Q) (F0 m pc ls st)
end
section
theorem zLs.inc {ls : Array Slot} {nL : Nat} {L : zLo} (h : zLs ls nL L) {i : Nat} {v w : Value} (hv : zget L i = some v) (hc : w.category = 1) (hi : zin L i = true) : ∃ (l : List (Nat × Value)) (k : Nat), l[k]? = some (i, v) ∧ lv_has ls nL l ∧ i < nL ∧ ∀ ls', lv_has ls' nL ((i, w) :: l.filter (fun q => !(q.1 == i) && !(q.1 + 1 == i && q.2.category == 2))) → zLs ls' nL (zst1 L i w) := by
  obtain ⟨h0, l, h1, h2⟩ := h
  have hi' := zin_len.mp hi
  obtain ⟨k, hk⟩ := List.getElem?_of_mem (h2 i v hv)
  refine ⟨l, k, hk, h1, by omega, fun ls' h' => ⟨by unfold zst1; rw [zput_len, zkill_len]; exact h0, _, h', fun j u hj => ?_⟩⟩
  unfold zst1 at hj
  rw [zget_put] at hj
  split at hj
  · rename_i e
    cases hj
    rw [e.1]
    exact List.mem_cons_self
  · rename_i e
    obtain ⟨g1, g2⟩ := zkill_get hj
    have hne : j ≠ i := fun q => e ⟨q, by rw [zin_len, zkill_len]; omega⟩
    refine List.mem_cons_of_mem _ (List.mem_filter.mpr ⟨h2 j u g1, ?_⟩)
    by_cases q : j + 1 = i
    · have := g2 q
      simp [hne, this]
    · simp [hne, q]
section ZR1
variable {X : zCx} {M : zMI} {f : zFr} {h : zHp} {pc : Nat} {L : zLo} {st : List Value} {Q : zRs → zHp → Prop}
set_option maxHeartbeats 4000000 in
theorem z_stp {e : zEn} {pc' : Nat} {L' : zLo} {st' : List Value} (hf : zlk (zFt M) pc = some e) (hs : zstp e L st = some (pc', L', st')) (k : Z X M f h pc' L' st' Q) : Z X M f h pc L st Q := by
  intro p ev s m args below meth c H locs ls E hR hn hk hlo hl
  obtain ⟨p0, ins, nx, v, t⟩ := e
  obtain ⟨hG, hM, hx, hb, -⟩ := id E
  cases ins with
  | iconst n =>
    obtain ⟨d, rfl, lt⟩ := zdn hM hf (n := 0) rfl
    simp only [zstp] at hs
    simp only [Option.some.injEq, Prod.mk.injEq] at hs
    obtain ⟨rfl, rfl, rfl⟩ := hs
    exact lv_iconst hx hb d (of_decide_eq_true lt) (k p ev s m args below meth c H locs ls E hR hn hk hlo hl)
  | bipush n =>
    obtain ⟨d, rfl, lt⟩ := zdn hM hf (n := 1) rfl
    simp only [zstp] at hs
    simp only [Option.some.injEq, Prod.mk.injEq] at hs
    obtain ⟨rfl, rfl, rfl⟩ := hs
    exact lv_bipush hx hb d (of_decide_eq_true lt) (k p ev s m args below meth c H locs ls E hR hn hk hlo hl)
  | sipush n =>
    obtain ⟨d, rfl, lt⟩ := zdn hM hf (n := 2) rfl
    simp only [zstp] at hs
    simp only [Option.some.injEq, Prod.mk.injEq] at hs
    obtain ⟨rfl, rfl, rfl⟩ := hs
    exact lv_sipush hx hb d (of_decide_eq_true lt) (k p ev s m args below meth c H locs ls E hR hn hk hlo hl)
  | lconst q =>
    obtain ⟨d, rfl, -⟩ := zdn hM hf (n := 0) rfl
    obtain ⟨kv, hkv⟩ := q
    simp only [zstp] at hs
    match kv, hkv, d, hs with
    | 0, hkv, d, hs =>
      simp only [Option.some.injEq, Prod.mk.injEq] at hs
      obtain ⟨rfl, rfl, rfl⟩ := hs
      exact lv_lconst hx hb d rfl (k p ev s m args below meth c H locs ls E hR hn hk hlo hl)
    | 1, hkv, d, hs =>
      simp only [Option.some.injEq, Prod.mk.injEq] at hs
      obtain ⟨rfl, rfl, rfl⟩ := hs
      exact lv_lconst hx hb d rfl (k p ev s m args below meth c H locs ls E hR hn hk hlo hl)
  | aconst_null =>
    obtain ⟨d, rfl, -⟩ := zdn hM hf (n := 0) rfl
    simp only [zstp] at hs
    simp only [Option.some.injEq, Prod.mk.injEq] at hs
    obtain ⟨rfl, rfl, rfl⟩ := hs
    exact lv_null hx hb d (k p ev s m args below meth c H locs ls E hR hn hk hlo hl)
  | iload i =>
    obtain ⟨d, rfl, -⟩ := zdn hM hf (n := 1) rfl
    simp only [zstp] at hs
    split at hs
    · rename_i hz
      simp only [Option.some.injEq, Prod.mk.injEq] at hs
      obtain ⟨rfl, rfl, rfl⟩ := hs
      exact lv_iload hx hb d (hl.at hz) (k p ev s m args below meth c H locs ls E hR hn hk hlo hl)
    · cases hs
  | iload_n q =>
    obtain ⟨d, rfl, -⟩ := zdn hM hf (n := 0) rfl
    simp only [zstp] at hs
    split at hs
    · rename_i hz
      simp only [Option.some.injEq, Prod.mk.injEq] at hs
      obtain ⟨rfl, rfl, rfl⟩ := hs
      exact lv_iload_n hx hb d rfl (hl.at hz) (k p ev s m args below meth c H locs ls E hR hn hk hlo hl)
    · cases hs
  | lload i =>
    obtain ⟨d, rfl, -⟩ := zdn hM hf (n := 1) rfl
    simp only [zstp] at hs
    split at hs
    · rename_i hz
      simp only [Option.some.injEq, Prod.mk.injEq] at hs
      obtain ⟨rfl, rfl, rfl⟩ := hs
      exact lv_lload hx hb d (hl.at hz) (k p ev s m args below meth c H locs ls E hR hn hk hlo hl)
    · cases hs
  | lload_n q =>
    obtain ⟨d, rfl, -⟩ := zdn hM hf (n := 0) rfl
    simp only [zstp] at hs
    split at hs
    · rename_i hz
      simp only [Option.some.injEq, Prod.mk.injEq] at hs
      obtain ⟨rfl, rfl, rfl⟩ := hs
      exact lv_lload_n hx hb d rfl (hl.at hz) (k p ev s m args below meth c H locs ls E hR hn hk hlo hl)
    · cases hs
  | aload i =>
    obtain ⟨d, rfl, -⟩ := zdn hM hf (n := 1) rfl
    simp only [zstp] at hs
    split at hs
    · rename_i hz
      simp only [Option.some.injEq, Prod.mk.injEq] at hs
      obtain ⟨rfl, rfl, rfl⟩ := hs
      exact lv_aload hx hb d (hl.at hz) (k p ev s m args below meth c H locs ls E hR hn hk hlo hl)
    · rename_i hz
      simp only [Option.some.injEq, Prod.mk.injEq] at hs
      obtain ⟨rfl, rfl, rfl⟩ := hs
      exact lv_aloadN hx hb d (hl.at hz) (k p ev s m args below meth c H locs ls E hR hn hk hlo hl)
    · cases hs
  | aload_n q =>
    obtain ⟨d, rfl, -⟩ := zdn hM hf (n := 0) rfl
    simp only [zstp] at hs
    split at hs
    · rename_i hz
      simp only [Option.some.injEq, Prod.mk.injEq] at hs
      obtain ⟨rfl, rfl, rfl⟩ := hs
      exact lv_aload_n hx hb d rfl (hl.at hz) (k p ev s m args below meth c H locs ls E hR hn hk hlo hl)
    · rename_i hz
      simp only [Option.some.injEq, Prod.mk.injEq] at hs
      obtain ⟨rfl, rfl, rfl⟩ := hs
      exact lv_aload_nN hx hb d rfl (hl.at hz) (k p ev s m args below meth c H locs ls E hR hn hk hlo hl)
    · cases hs
  | istore i =>
    obtain ⟨d, rfl, -⟩ := zdn hM hf (n := 1) rfl
    simp only [zstp] at hs
    split at hs
    · rename_i x9 r9 hz
      rw [zfc_eq] at hs
      simp only [Option.some.injEq, Prod.mk.injEq] at hs
      obtain ⟨rfl, rfl, rfl⟩ := hs
      obtain ⟨l9, g1, g2, g3⟩ := hl.st1 (v := .int x9) rfl hz
      exact lv_istore hx hb d g1 g2 rfl (fun ls' h' => k p ev s m args below meth c H locs ls' E hR hn hk hlo (g3 ls' h'))
    · cases hs
  | istore_n q =>
    obtain ⟨d, rfl, -⟩ := zdn hM hf (n := 0) rfl
    simp only [zstp] at hs
    split at hs
    · rename_i x9 r9 hz
      rw [zfc_eq] at hs
      simp only [Option.some.injEq, Prod.mk.injEq] at hs
      obtain ⟨rfl, rfl, rfl⟩ := hs
      obtain ⟨l9, g1, g2, g3⟩ := hl.st1 (v := .int x9) rfl hz
      exact lv_istore_n hx hb d rfl g1 g2 rfl (fun ls' h' => k p ev s m args below meth c H locs ls' E hR hn hk hlo (g3 ls' h'))
    · cases hs
  | lstore i =>
    obtain ⟨d, rfl, -⟩ := zdn hM hf (n := 1) rfl
    simp only [zstp] at hs
    split at hs
    · rename_i x9 r9 hz
      rw [zfc_eq] at hs
      simp only [Option.some.injEq, Prod.mk.injEq] at hs
      obtain ⟨rfl, rfl, rfl⟩ := hs
      obtain ⟨l9, g1, g2, g3⟩ := hl.st2 (v := .long x9) rfl hz
      exact lv_lstore hx hb d g1 g2 rfl (fun ls' h' => k p ev s m args below meth c H locs ls' E hR hn hk hlo (g3 ls' h'))
    · cases hs
  | lstore_n q =>
    obtain ⟨d, rfl, -⟩ := zdn hM hf (n := 0) rfl
    simp only [zstp] at hs
    split at hs
    · rename_i x9 r9 hz
      rw [zfc_eq] at hs
      simp only [Option.some.injEq, Prod.mk.injEq] at hs
      obtain ⟨rfl, rfl, rfl⟩ := hs
      obtain ⟨l9, g1, g2, g3⟩ := hl.st2 (v := .long x9) rfl hz
      exact lv_lstore_n hx hb d rfl g1 g2 rfl (fun ls' h' => k p ev s m args below meth c H locs ls' E hR hn hk hlo (g3 ls' h'))
    · cases hs
  | astore i =>
    obtain ⟨d, rfl, -⟩ := zdn hM hf (n := 1) rfl
    simp only [zstp] at hs
    split at hs
    · rename_i x9 r9 hz
      rw [zfc_eq] at hs
      simp only [Option.some.injEq, Prod.mk.injEq] at hs
      obtain ⟨rfl, rfl, rfl⟩ := hs
      obtain ⟨l9, g1, g2, g3⟩ := hl.st1 (v := .ref x9) rfl hz
      exact lv_astore hx hb d g1 g2 rfl (fun ls' h' => k p ev s m args below meth c H locs ls' E hR hn hk hlo (g3 ls' h'))
    · rename_i hz
      rw [zfc_eq] at hs
      simp only [Option.some.injEq, Prod.mk.injEq] at hs
      obtain ⟨rfl, rfl, rfl⟩ := hs
      obtain ⟨l9, g1, g2, g3⟩ := hl.st1 (v := .null) rfl hz
      exact lv_astoreN hx hb d g1 g2 rfl (fun ls' h' => k p ev s m args below meth c H locs ls' E hR hn hk hlo (g3 ls' h'))
    · cases hs
  | astore_n q =>
    obtain ⟨d, rfl, -⟩ := zdn hM hf (n := 0) rfl
    simp only [zstp] at hs
    split at hs
    · rename_i x9 r9 hz
      rw [zfc_eq] at hs
      simp only [Option.some.injEq, Prod.mk.injEq] at hs
      obtain ⟨rfl, rfl, rfl⟩ := hs
      obtain ⟨l9, g1, g2, g3⟩ := hl.st1 (v := .ref x9) rfl hz
      exact lv_astore_n hx hb d rfl g1 g2 rfl (fun ls' h' => k p ev s m args below meth c H locs ls' E hR hn hk hlo (g3 ls' h'))
    · rename_i hz
      rw [zfc_eq] at hs
      simp only [Option.some.injEq, Prod.mk.injEq] at hs
      obtain ⟨rfl, rfl, rfl⟩ := hs
      obtain ⟨l9, g1, g2, g3⟩ := hl.st1 (v := .null) rfl hz
      exact lv_astore_nN hx hb d rfl g1 g2 rfl (fun ls' h' => k p ev s m args below meth c H locs ls' E hR hn hk hlo (g3 ls' h'))
    · cases hs
  | iinc i n =>
    obtain ⟨d, rfl, lt⟩ := zdn hM hf (n := 2) rfl
    simp only [zstp] at hs
    split at hs
    · rename_i hz hy
      rw [zfc_eq] at hs
      simp only [Option.some.injEq, Prod.mk.injEq] at hs
      obtain ⟨rfl, rfl, rfl⟩ := hs
      obtain ⟨l9, q9, g0, g1, g2, g3⟩ := hl.inc hy (w := .int (_ + v)) rfl hz
      exact lv_iinc hx hb d g1 g0 (by rw [of_decide_eq_true lt]) g2 rfl (fun ls' h' => k p ev s m args below meth c H locs ls' E hR hn hk hlo (g3 ls' h'))
    · cases hs
  | goto o =>
    obtain ⟨d, rfl, lt⟩ := zdn hM hf (n := 2) rfl
    simp only [zstp] at hs
    simp only [Option.some.injEq, Prod.mk.injEq] at hs
    obtain ⟨rfl, rfl, rfl⟩ := hs
    exact lv_goto hx hb d (of_decide_eq_true lt) (k p ev s m args below meth c H locs ls E hR hn hk hlo hl)
  | ifnull o =>
    obtain ⟨d, rfl, lt⟩ := zdn hM hf (n := 2) rfl
    simp only [zstp] at hs
    split at hs
    · simp only [Option.some.injEq, Prod.mk.injEq] at hs
      obtain ⟨rfl, rfl, rfl⟩ := hs
      exact lv_ifnull hx hb d (k p ev s m args below meth c H locs ls E hR hn hk hlo hl)
    · simp only [Option.some.injEq, Prod.mk.injEq] at hs
      obtain ⟨rfl, rfl, rfl⟩ := hs
      exact lv_ifnullN hx hb d (of_decide_eq_true lt) (k p ev s m args below meth c H locs ls E hR hn hk hlo hl)
    · cases hs
  | ifnonnull o =>
    obtain ⟨d, rfl, lt⟩ := zdn hM hf (n := 2) rfl
    simp only [zstp] at hs
    split at hs
    · simp only [Option.some.injEq, Prod.mk.injEq] at hs
      obtain ⟨rfl, rfl, rfl⟩ := hs
      exact lv_ifnonnull hx hb d (of_decide_eq_true lt) (k p ev s m args below meth c H locs ls E hR hn hk hlo hl)
    · simp only [Option.some.injEq, Prod.mk.injEq] at hs
      obtain ⟨rfl, rfl, rfl⟩ := hs
      exact lv_ifnonnullN hx hb d (k p ev s m args below meth c H locs ls E hR hn hk hlo hl)
    · cases hs
  | iadd =>
    obtain ⟨d, rfl, -⟩ := zdn hM hf (n := 0) rfl
    simp only [zstp] at hs
    split at hs
    · simp only [Option.some.injEq, Prod.mk.injEq] at hs
      obtain ⟨rfl, rfl, rfl⟩ := hs
      exact lv_iadd hx hb d (k p ev s m args below meth c H locs ls E hR hn hk hlo hl)
    · cases hs
  | isub =>
    obtain ⟨d, rfl, -⟩ := zdn hM hf (n := 0) rfl
    simp only [zstp] at hs
    split at hs
    · simp only [Option.some.injEq, Prod.mk.injEq] at hs
      obtain ⟨rfl, rfl, rfl⟩ := hs
      exact lv_isub hx hb d (k p ev s m args below meth c H locs ls E hR hn hk hlo hl)
    · cases hs
  | imul =>
    obtain ⟨d, rfl, -⟩ := zdn hM hf (n := 0) rfl
    simp only [zstp] at hs
    split at hs
    · simp only [Option.some.injEq, Prod.mk.injEq] at hs
      obtain ⟨rfl, rfl, rfl⟩ := hs
      exact lv_imul hx hb d (k p ev s m args below meth c H locs ls E hR hn hk hlo hl)
    · cases hs
  | iand =>
    obtain ⟨d, rfl, -⟩ := zdn hM hf (n := 0) rfl
    simp only [zstp] at hs
    split at hs
    · simp only [Option.some.injEq, Prod.mk.injEq] at hs
      obtain ⟨rfl, rfl, rfl⟩ := hs
      exact lv_iand hx hb d (k p ev s m args below meth c H locs ls E hR hn hk hlo hl)
    · cases hs
  | ior =>
    obtain ⟨d, rfl, -⟩ := zdn hM hf (n := 0) rfl
    simp only [zstp] at hs
    split at hs
    · simp only [Option.some.injEq, Prod.mk.injEq] at hs
      obtain ⟨rfl, rfl, rfl⟩ := hs
      exact lv_ior hx hb d (k p ev s m args below meth c H locs ls E hR hn hk hlo hl)
    · cases hs
  | ishr =>
    obtain ⟨d, rfl, -⟩ := zdn hM hf (n := 0) rfl
    simp only [zstp] at hs
    split at hs
    · simp only [Option.some.injEq, Prod.mk.injEq] at hs
      obtain ⟨rfl, rfl, rfl⟩ := hs
      exact lv_ishr hx hb d (k p ev s m args below meth c H locs ls E hR hn hk hlo hl)
    · cases hs
  | ineg =>
    obtain ⟨d, rfl, -⟩ := zdn hM hf (n := 0) rfl
    simp only [zstp] at hs
    split at hs
    · simp only [Option.some.injEq, Prod.mk.injEq] at hs
      obtain ⟨rfl, rfl, rfl⟩ := hs
      exact lv_ineg hx hb d (k p ev s m args below meth c H locs ls E hR hn hk hlo hl)
    · cases hs
  | ladd =>
    obtain ⟨d, rfl, -⟩ := zdn hM hf (n := 0) rfl
    simp only [zstp] at hs
    split at hs
    · simp only [Option.some.injEq, Prod.mk.injEq] at hs
      obtain ⟨rfl, rfl, rfl⟩ := hs
      exact lv_ladd hx hb d (k p ev s m args below meth c H locs ls E hR hn hk hlo hl)
    · cases hs
  | lsub =>
    obtain ⟨d, rfl, -⟩ := zdn hM hf (n := 0) rfl
    simp only [zstp] at hs
    split at hs
    · simp only [Option.some.injEq, Prod.mk.injEq] at hs
      obtain ⟨rfl, rfl, rfl⟩ := hs
      exact lv_lsub hx hb d (k p ev s m args below meth c H locs ls E hR hn hk hlo hl)
    · cases hs
  | lmul =>
    obtain ⟨d, rfl, -⟩ := zdn hM hf (n := 0) rfl
    simp only [zstp] at hs
    split at hs
    · simp only [Option.some.injEq, Prod.mk.injEq] at hs
      obtain ⟨rfl, rfl, rfl⟩ := hs
      exact lv_lmul hx hb d (k p ev s m args below meth c H locs ls E hR hn hk hlo hl)
    · cases hs
  | land =>
    obtain ⟨d, rfl, -⟩ := zdn hM hf (n := 0) rfl
    simp only [zstp] at hs
    split at hs
    · simp only [Option.some.injEq, Prod.mk.injEq] at hs
      obtain ⟨rfl, rfl, rfl⟩ := hs
      exact lv_land hx hb d (k p ev s m args below meth c H locs ls E hR hn hk hlo hl)
    · cases hs
  | lor =>
    obtain ⟨d, rfl, -⟩ := zdn hM hf (n := 0) rfl
    simp only [zstp] at hs
    split at hs
    · simp only [Option.some.injEq, Prod.mk.injEq] at hs
      obtain ⟨rfl, rfl, rfl⟩ := hs
      exact lv_lor hx hb d (k p ev s m args below meth c H locs ls E hR hn hk hlo hl)
    · cases hs
  | lneg =>
    obtain ⟨d, rfl, -⟩ := zdn hM hf (n := 0) rfl
    simp only [zstp] at hs
    split at hs
    · simp only [Option.some.injEq, Prod.mk.injEq] at hs
      obtain ⟨rfl, rfl, rfl⟩ := hs
      exact lv_lneg hx hb d (k p ev s m args below meth c H locs ls E hR hn hk hlo hl)
    · cases hs
  | lshl =>
    obtain ⟨d, rfl, -⟩ := zdn hM hf (n := 0) rfl
    simp only [zstp] at hs
    split at hs
    · simp only [Option.some.injEq, Prod.mk.injEq] at hs
      obtain ⟨rfl, rfl, rfl⟩ := hs
      exact lv_lshl hx hb d rfl (k p ev s m args below meth c H locs ls E hR hn hk hlo hl)
    · cases hs
  | lushr =>
    obtain ⟨d, rfl, -⟩ := zdn hM hf (n := 0) rfl
    simp only [zstp] at hs
    split at hs
    · simp only [Option.some.injEq, Prod.mk.injEq] at hs
      obtain ⟨rfl, rfl, rfl⟩ := hs
      exact lv_lushr hx hb d rfl (k p ev s m args below meth c H locs ls E hR hn hk hlo hl)
    · cases hs
  | i2l =>
    obtain ⟨d, rfl, -⟩ := zdn hM hf (n := 0) rfl
    simp only [zstp] at hs
    split at hs
    · simp only [Option.some.injEq, Prod.mk.injEq] at hs
      obtain ⟨rfl, rfl, rfl⟩ := hs
      exact lv_i2l hx hb d rfl (k p ev s m args below meth c H locs ls E hR hn hk hlo hl)
    · cases hs
  | l2i =>
    obtain ⟨d, rfl, -⟩ := zdn hM hf (n := 0) rfl
    simp only [zstp] at hs
    split at hs
    · simp only [Option.some.injEq, Prod.mk.injEq] at hs
      obtain ⟨rfl, rfl, rfl⟩ := hs
      exact lv_l2i hx hb d rfl (k p ev s m args below meth c H locs ls E hR hn hk hlo hl)
    · cases hs
  | i2b =>
    obtain ⟨d, rfl, -⟩ := zdn hM hf (n := 0) rfl
    simp only [zstp] at hs
    split at hs
    · simp only [Option.some.injEq, Prod.mk.injEq] at hs
      obtain ⟨rfl, rfl, rfl⟩ := hs
      exact lv_i2b hx hb d rfl (k p ev s m args below meth c H locs ls E hR hn hk hlo hl)
    · cases hs
  | lcmp =>
    obtain ⟨d, rfl, -⟩ := zdn hM hf (n := 0) rfl
    simp only [zstp] at hs
    split at hs
    · simp only [Option.some.injEq, Prod.mk.injEq] at hs
      obtain ⟨rfl, rfl, rfl⟩ := hs
      exact W.lcmp hx hb d (k p ev s m args below meth c H locs ls E hR hn hk hlo hl)
    · cases hs
  | dup =>
    obtain ⟨d, rfl, -⟩ := zdn hM hf (n := 0) rfl
    simp only [zstp] at hs
    split at hs
    · split at hs
      · rename_i hz
        simp only [Option.some.injEq, Prod.mk.injEq] at hs
        obtain ⟨rfl, rfl, rfl⟩ := hs
        exact lv_dup hx hb d (zc1_ok hz) (k p ev s m args below meth c H locs ls E hR hn hk hlo hl)
      · cases hs
    · cases hs
  | pop =>
    obtain ⟨d, rfl, -⟩ := zdn hM hf (n := 0) rfl
    simp only [zstp] at hs
    split at hs
    · split at hs
      · rename_i hz
        simp only [Option.some.injEq, Prod.mk.injEq] at hs
        obtain ⟨rfl, rfl, rfl⟩ := hs
        exact lv_pop hx hb d (zc1_ok hz) (k p ev s m args below meth c H locs ls E hR hn hk hlo hl)
      · cases hs
    · cases hs
  | dup_x1 =>
    obtain ⟨d, rfl, -⟩ := zdn hM hf (n := 0) rfl
    simp only [zstp] at hs
    split at hs
    · split at hs
      · rename_i hz hy
        simp only [Option.some.injEq, Prod.mk.injEq] at hs
        obtain ⟨rfl, rfl, rfl⟩ := hs
        exact lv_dup_x1 hx hb d (zc1_ok hz) (zc1_ok hy) (k p ev s m args below meth c H locs ls E hR hn hk hlo hl)
      · cases hs
    · cases hs
  | _ => simp [zstp] at hs
theorem z_go (n : Nat) {pc' : Nat} {L' : zLo} {st' : List Value} (hg : zgo (zFt M) n pc L st = (pc', L', st')) (k : Z X M f h pc' L' st' Q) : Z X M f h pc L st Q := by
  induction n generalizing pc L st with
  | zero =>
    simp only [zgo, Prod.mk.injEq] at hg
    obtain ⟨rfl, rfl, rfl⟩ := hg
    exact k
  | succ n ih =>
    simp only [zgo] at hg
    split at hg
    · rename_i e he
      split at hg
      · rename_i p9 L9 s9 hz
        exact z_stp he hz (ih hg)
      · simp only [Prod.mk.injEq] at hg
        obtain ⟨rfl, rfl, rfl⟩ := hg
        exact k
    · simp only [Prod.mk.injEq] at hg
      obtain ⟨rfl, rfl, rfl⟩ := hg
      exact k
set_option maxHeartbeats 1000000 in
theorem z_br {e : zEn} {ct cf : Prop} {st' : List Value} (hf : zlk (zFt M) pc = some e) (hs : zbr e st = some (ct, cf, st')) (kt : ct → Z X M f h e.2.2.2.2 L st' Q) (kf : cf → Z X M f h e.2.2.1 L st' Q) : Z X M f h pc L st Q := by
  intro p ev s m args below meth c H locs ls E hR hn hk hlo hl
  obtain ⟨p0, ins, nx, v, t⟩ := e
  obtain ⟨hG, hM, hx, hb, -⟩ := id E
  cases ins with
  | ifCond b o =>
    obtain ⟨d, rfl, lt⟩ := zdn hM hf (n := 2) rfl
    simp only [zbr] at hs
    split at hs
    · cases b with
      | eq =>
        simp only [Option.some.injEq, Prod.mk.injEq] at hs
        obtain ⟨rfl, rfl, rfl⟩ := hs
        exact lv_if_eq hx hb d (of_decide_eq_true lt) (fun q => kt q p ev s m args below meth c H locs ls E hR hn hk hlo hl) (fun q => kf q p ev s m args below meth c H locs ls E hR hn hk hlo hl)
      | ne =>
        simp only [Option.some.injEq, Prod.mk.injEq] at hs
        obtain ⟨rfl, rfl, rfl⟩ := hs
        exact lv_if_ne hx hb d (of_decide_eq_true lt) (fun q => kt q p ev s m args below meth c H locs ls E hR hn hk hlo hl) (fun q => kf q p ev s m args below meth c H locs ls E hR hn hk hlo hl)
      | lt =>
        simp only [Option.some.injEq, Prod.mk.injEq] at hs
        obtain ⟨rfl, rfl, rfl⟩ := hs
        exact lv_if_lt hx hb d (of_decide_eq_true lt) (fun q => kt q p ev s m args below meth c H locs ls E hR hn hk hlo hl) (fun q => kf q p ev s m args below meth c H locs ls E hR hn hk hlo hl)
      | ge =>
        simp only [Option.some.injEq, Prod.mk.injEq] at hs
        obtain ⟨rfl, rfl, rfl⟩ := hs
        exact lv_if_ge hx hb d (of_decide_eq_true lt) (fun q => kt q p ev s m args below meth c H locs ls E hR hn hk hlo hl) (fun q => kf q p ev s m args below meth c H locs ls E hR hn hk hlo hl)
      | gt =>
        simp only [Option.some.injEq, Prod.mk.injEq] at hs
        obtain ⟨rfl, rfl, rfl⟩ := hs
        exact lv_if_gt hx hb d (of_decide_eq_true lt) (fun q => kt q p ev s m args below meth c H locs ls E hR hn hk hlo hl) (fun q => kf q p ev s m args below meth c H locs ls E hR hn hk hlo hl)
      | le =>
        simp only [Option.some.injEq, Prod.mk.injEq] at hs
        obtain ⟨rfl, rfl, rfl⟩ := hs
        exact lv_if_le hx hb d (of_decide_eq_true lt) (fun q => kt q p ev s m args below meth c H locs ls E hR hn hk hlo hl) (fun q => kf q p ev s m args below meth c H locs ls E hR hn hk hlo hl)
    · cases hs
  | if_icmp b o =>
    obtain ⟨d, rfl, lt⟩ := zdn hM hf (n := 2) rfl
    simp only [zbr] at hs
    split at hs
    · cases b with
      | eq =>
        simp only [Option.some.injEq, Prod.mk.injEq] at hs
        obtain ⟨rfl, rfl, rfl⟩ := hs
        exact lv_icmp_eq hx hb d (of_decide_eq_true lt) (fun q => kt q p ev s m args below meth c H locs ls E hR hn hk hlo hl) (fun q => kf q p ev s m args below meth c H locs ls E hR hn hk hlo hl)
      | ne =>
        simp only [Option.some.injEq, Prod.mk.injEq] at hs
        obtain ⟨rfl, rfl, rfl⟩ := hs
        exact lv_icmp_ne hx hb d (of_decide_eq_true lt) (fun q => kt q p ev s m args below meth c H locs ls E hR hn hk hlo hl) (fun q => kf q p ev s m args below meth c H locs ls E hR hn hk hlo hl)
      | lt =>
        simp only [Option.some.injEq, Prod.mk.injEq] at hs
        obtain ⟨rfl, rfl, rfl⟩ := hs
        exact lv_icmp_lt hx hb d (of_decide_eq_true lt) (fun q => kt q p ev s m args below meth c H locs ls E hR hn hk hlo hl) (fun q => kf q p ev s m args below meth c H locs ls E hR hn hk hlo hl)
      | ge =>
        simp only [Option.some.injEq, Prod.mk.injEq] at hs
        obtain ⟨rfl, rfl, rfl⟩ := hs
        exact lv_icmp_ge hx hb d (of_decide_eq_true lt) (fun q => kt q p ev s m args below meth c H locs ls E hR hn hk hlo hl) (fun q => kf q p ev s m args below meth c H locs ls E hR hn hk hlo hl)
      | gt =>
        simp only [Option.some.injEq, Prod.mk.injEq] at hs
        obtain ⟨rfl, rfl, rfl⟩ := hs
        exact lv_icmp_gt hx hb d (of_decide_eq_true lt) (fun q => kt q p ev s m args below meth c H locs ls E hR hn hk hlo hl) (fun q => kf q p ev s m args below meth c H locs ls E hR hn hk hlo hl)
      | le =>
        simp only [Option.some.injEq, Prod.mk.injEq] at hs
        obtain ⟨rfl, rfl, rfl⟩ := hs
        exact lv_icmp_le hx hb d (of_decide_eq_true lt) (fun q => kt q p ev s m args below meth c H locs ls E hR hn hk hlo hl) (fun q => kf q p ev s m args below meth c H locs ls E hR hn hk hlo hl)
    · cases hs
  | if_acmp b o =>
    obtain ⟨d, rfl, lt⟩ := zdn hM hf (n := 2) rfl
    simp only [zbr] at hs
    split at hs
    · rename_i y9 x9 r9
      cases b with
      | eq =>
        simp only [Option.some.injEq, Prod.mk.injEq] at hs
        obtain ⟨rfl, rfl, rfl⟩ := hs
        exact lv_acmp_eq (rx := some x9) (ry := some y9) hx hb d (of_decide_eq_true lt) (fun q => kt (Option.some.inj q) p ev s m args below meth c H locs ls E hR hn hk hlo hl) (fun q => kf (fun z => q (congrArg some z)) p ev s m args below meth c H locs ls E hR hn hk hlo hl)
      | ne =>
        simp only [Option.some.injEq, Prod.mk.injEq] at hs
        obtain ⟨rfl, rfl, rfl⟩ := hs
        exact lv_acmp_ne (rx := some x9) (ry := some y9) hx hb d (of_decide_eq_true lt) (fun q => kt (fun z => q (congrArg some z)) p ev s m args below meth c H locs ls E hR hn hk hlo hl) (fun q => kf (Option.some.inj q) p ev s m args below meth c H locs ls E hR hn hk hlo hl)
    · cases hs
  | _ => simp [zbr] at hs
end ZR1
end
section
/-! the links of the tables, by number: fields, methods, methods across the nest, classes -/
def zFR : List (String × Nat × String × String × String) := [("ShadowWard$Memory", 9, "ShadowWard$Memory", "size", "I"),
  ("ShadowWard$Heap", 35, "ShadowWard$Memory", "size", "I"),
  ("ShadowWard", 164, "ShadowWard$Memory", "size", "I"),
  ("ShadowWard$Memory", 15, "ShadowWard$Memory", "stackStart", "I"),
  ("ShadowWard$Globals", 26, "ShadowWard$Memory", "stackStart", "I"),
  ("ShadowWard$Frames", 52, "ShadowWard$Memory", "stackStart", "I"),
  ("ShadowWard", 276, "ShadowWard$Memory", "stackStart", "I"),
  ("ShadowWard$Memory", 18, "ShadowWard$Memory", "heapStart", "I"),
  ("ShadowWard$Heap", 43, "ShadowWard$Memory", "heapStart", "I"),
  ("ShadowWard$Frames", 37, "ShadowWard$Memory", "heapStart", "I"),
  ("ShadowWard", 283, "ShadowWard$Memory", "heapStart", "I"),
  ("ShadowWard$Memory", 21, "ShadowWard$Memory", "bytes", "[I"),
  ("ShadowWard$Memory", 25, "ShadowWard$Memory", "shadows", "[I"),
  ("java/util/ArrayList", 39, "java/util/ArrayList", "DEFAULTCAPACITY_EMPTY_ELEMENTDATA", "[Ljava/lang/Object;"),
  ("java/util/ArrayList", 9, "java/util/ArrayList", "elementData", "[Ljava/lang/Object;"),
  ("java/util/ArrayList", 48, "java/util/ArrayList", "size", "I"),
  ("java/util/AbstractList", 7, "java/util/AbstractList", "modCount", "I"),
  ("java/util/ArrayList", 63, "java/util/ArrayList", "modCount", "I"),
  ("ShadowWard$Globals", 18, "ShadowWard$Globals", "memory", "LShadowWard$Memory;"),
  ("ShadowWard$Globals", 12, "ShadowWard$Globals", "regions", "Ljava/util/ArrayList;"),
  ("ShadowWard$LostSearch", 78, "ShadowWard$Globals", "regions", "Ljava/util/ArrayList;"),
  ("ShadowWard", 224, "ShadowWard$Globals", "regions", "Ljava/util/ArrayList;"),
  ("ShadowWard$Frames", 18, "ShadowWard$Frames", "memory", "LShadowWard$Memory;"),
  ("ShadowWard$Frames", 12, "ShadowWard$Frames", "frames", "Ljava/util/ArrayList;"),
  ("ShadowWard$LostSearch", 94, "ShadowWard$Frames", "frames", "Ljava/util/ArrayList;"),
  ("ShadowWard", 250, "ShadowWard$Frames", "frames", "Ljava/util/ArrayList;"),
  ("ShadowWard$Heap", 31, "ShadowWard$Heap", "memory", "LShadowWard$Memory;"),
  ("ShadowWard$Heap", 40, "ShadowWard$Heap", "mostHeldBytes", "I"),
  ("ShadowWard", 221, "ShadowWard$Heap", "mostHeldBytes", "I"),
  ("ShadowWard$Heap", 12, "ShadowWard$Heap", "blocks", "Ljava/util/ArrayList;"),
  ("ShadowWard$LostSearch", 46, "ShadowWard$Heap", "blocks", "Ljava/util/ArrayList;"),
  ("ShadowWard", 202, "ShadowWard$Heap", "blocks", "Ljava/util/ArrayList;"),
  ("ShadowWard$Heap", 18, "ShadowWard$Heap", "quarantine", "Ljava/util/ArrayList;"),
  ("ShadowWard", 212, "ShadowWard$Heap", "quarantine", "Ljava/util/ArrayList;"),
  ("ShadowWard$Heap", 48, "ShadowWard$Heap", "owners", "[LShadowWard$Block;"),
  ("ShadowWard$Heap", 21, "ShadowWard$Heap", "liveCount", "I"),
  ("ShadowWard$LostSearch", 69, "ShadowWard$Heap", "liveCount", "I"),
  ("ShadowWard", 227, "ShadowWard$Heap", "liveCount", "I"),
  ("ShadowWard$Heap", 25, "ShadowWard$Heap", "liveBytes", "I"),
  ("ShadowWard", 233, "ShadowWard$Heap", "liveBytes", "I"),
  ("ShadowWard$Heap", 28, "ShadowWard$Heap", "heldBytes", "I"),
  ("ShadowWard", 230, "ShadowWard$Heap", "heldBytes", "I"),
  ("ShadowWard$LostSearch", 18, "ShadowWard$LostSearch", "memory", "LShadowWard$Memory;"),
  ("ShadowWard$LostSearch", 22, "ShadowWard$LostSearch", "globals", "LShadowWard$Globals;"),
  ("ShadowWard$LostSearch", 26, "ShadowWard$LostSearch", "frames", "LShadowWard$Frames;"),
  ("ShadowWard$LostSearch", 30, "ShadowWard$LostSearch", "heap", "LShadowWard$Heap;"),
  ("ShadowWard$LostSearch", 12, "ShadowWard$LostSearch", "found", "Ljava/util/ArrayList;"),
  ("ShadowWard", 12, "ShadowWard", "memory", "LShadowWard$Memory;"),
  ("ShadowWard", 23, "ShadowWard", "globals", "LShadowWard$Globals;"),
  ("ShadowWard", 30, "ShadowWard", "frames", "LShadowWard$Frames;"),
  ("ShadowWard", 39, "ShadowWard", "heap", "LShadowWard$Heap;"),
  ("ShadowWard", 48, "ShadowWard", "lostSearch", "LShadowWard$LostSearch;"),
  ("ShadowWard", 55, "ShadowWard", "reports", "Ljava/util/ArrayList;"),
  ("ShadowWard$Report", 30, "ShadowWard$Report", "kind", "I"),
  ("ShadowWard$Report", 33, "ShadowWard$Report", "address", "I"),
  ("ShadowWard$Report", 36, "ShadowWard$Report", "bytes", "I"),
  ("ShadowWard$Report", 39, "ShadowWard$Report", "readOrWrite", "I"),
  ("ShadowWard$Report", 9, "ShadowWard$Report", "place", "I"),
  ("ShadowWard$Report", 15, "ShadowWard$Report", "number", "I"),
  ("ShadowWard$Report", 18, "ShadowWard$Report", "far", "I"),
  ("ShadowWard$Report", 21, "ShadowWard$Report", "side", "I"),
  ("ShadowWard$Report", 24, "ShadowWard$Report", "siteGiven", "I"),
  ("ShadowWard$Report", 27, "ShadowWard$Report", "siteFreed", "I"),
  ("java/lang/Throwable", 198, "java/lang/Throwable", "backtrace", "Ljava/lang/Object;"),
  ("java/lang/Throwable", 13, "java/lang/Throwable", "UNASSIGNED_STACK", "[Ljava/lang/StackTraceElement;"),
  ("java/lang/Throwable", 20, "java/lang/Throwable", "SUPPRESSED_SENTINEL", "Ljava/util/List;"),
  ("java/lang/Throwable", 198, "java/lang/Throwable", "backtrace", "Ljava/lang/Object;"),
  ("java/lang/Throwable", 31, "java/lang/Throwable", "detailMessage", "Ljava/lang/String;"),
  ("java/lang/Throwable", 7, "java/lang/Throwable", "cause", "Ljava/lang/Throwable;"),
  ("java/lang/Throwable", 17, "java/lang/Throwable", "stackTrace", "[Ljava/lang/StackTraceElement;"),
  ("java/lang/Throwable", 24, "java/lang/Throwable", "suppressedExceptions", "Ljava/util/List;"),
  ("ShadowWard$Region", 7, "ShadowWard$Region", "place", "I"),
  ("ShadowWard$Report", 42, "ShadowWard$Region", "place", "I"),
  ("ShadowWard$Region", 13, "ShadowWard$Region", "number", "I"),
  ("ShadowWard$Report", 45, "ShadowWard$Region", "number", "I"),
  ("ShadowWard", 215, "ShadowWard$Block", "number", "I"),
  ("ShadowWard$Region", 16, "ShadowWard$Region", "address", "I"),
  ("ShadowWard$Heap", 76, "ShadowWard$Block", "address", "I"),
  ("ShadowWard$LostSearch", 106, "ShadowWard$Region", "address", "I"),
  ("ShadowWard$Block", 39, "ShadowWard$Block", "address", "I"),
  ("ShadowWard", 97, "ShadowWard$Variable", "address", "I"),
  ("ShadowWard$Frames", 81, "ShadowWard$Variable", "address", "I"),
  ("ShadowWard$LostSearch", 124, "ShadowWard$Block", "address", "I"),
  ("ShadowWard", 113, "ShadowWard$Block", "address", "I"),
  ("ShadowWard", 300, "ShadowWard$Region", "address", "I"),
  ("ShadowWard$Region", 19, "ShadowWard$Region", "size", "I"),
  ("ShadowWard$Block", 42, "ShadowWard$Block", "size", "I"),
  ("ShadowWard$Heap", 114, "ShadowWard$Block", "size", "I"),
  ("ShadowWard$Frames", 82, "ShadowWard$Variable", "size", "I"),
  ("ShadowWard", 128, "ShadowWard$Block", "size", "I"),
  ("ShadowWard$Region", 22, "ShadowWard$Region", "end", "I"),
  ("ShadowWard$Globals", 52, "ShadowWard$Region", "end", "I"),
  ("ShadowWard$LostSearch", 109, "ShadowWard$Region", "end", "I"),
  ("ShadowWard$LostSearch", 125, "ShadowWard$Block", "end", "I"),
  ("ShadowWard$Region", 25, "ShadowWard$Region", "siteGiven", "I"),
  ("ShadowWard$Report", 53, "ShadowWard$Region", "siteGiven", "I"),
  ("ShadowWard$Block", 45, "ShadowWard$Block", "siteGiven", "I"),
  ("ShadowWard$Report", 54, "ShadowWard$Region", "siteFreed", "I"),
  ("ShadowWard$Block", 48, "ShadowWard$Block", "siteFreed", "I"),
  ("ShadowWard$Heap", 111, "ShadowWard$Block", "siteFreed", "I"),
  ("ShadowWard$Frame", 16, "ShadowWard$Frame", "address", "I"),
  ("ShadowWard$Frames", 49, "ShadowWard$Frame", "address", "I"),
  ("ShadowWard$Frame", 20, "ShadowWard$Frame", "bytes", "I"),
  ("ShadowWard$Frames", 90, "ShadowWard$Frame", "bytes", "I"),
  ("ShadowWard$Frame", 10, "ShadowWard$Frame", "variables", "Ljava/util/ArrayList;"),
  ("ShadowWard$LostSearch", 98, "ShadowWard$Frame", "variables", "Ljava/util/ArrayList;"),
  ("ShadowWard$Frames", 70, "ShadowWard$Frame", "variables", "Ljava/util/ArrayList;"),
  ("ShadowWard", 254, "ShadowWard$Frame", "variables", "Ljava/util/ArrayList;"),
  ("ShadowWard$Variable", 9, "ShadowWard$Variable", "inScope", "Z"),
  ("ShadowWard$LostSearch", 103, "ShadowWard$Variable", "inScope", "Z"),
  ("ShadowWard$Frames", 93, "ShadowWard$Variable", "inScope", "Z"),
  ("ShadowWard$Block", 19, "ShadowWard$Block", "kind", "I"),
  ("ShadowWard", 264, "ShadowWard$Block", "kind", "I"),
  ("ShadowWard$Block", 22, "ShadowWard$Block", "chunk", "I"),
  ("ShadowWard$Heap", 83, "ShadowWard$Block", "chunk", "I"),
  ("ShadowWard$Block", 28, "ShadowWard$Block", "chunkBytes", "I"),
  ("ShadowWard$Heap", 73, "ShadowWard$Block", "chunkBytes", "I"),
  ("ShadowWard$Block", 15, "ShadowWard$Block", "state", "I"),
  ("ShadowWard$Heap", 108, "ShadowWard$Block", "state", "I"),
  ("ShadowWard", 261, "ShadowWard$Block", "state", "I"),
  ("ShadowWard$Block", 35, "ShadowWard$Block", "found", "Z"),
  ("ShadowWard$LostSearch", 76, "ShadowWard$Block", "found", "Z"),
  ("ShadowWard$LostSearch", 65, "ShadowWard$Block", "ledToByLost", "Z"),
  ("ShadowWardModel", 85, "ShadowWardModel", "thrown", "I"),
  ("ShadowWardModel", 78, "ShadowWardModel", "n", "I"),
  ("ShadowWardModel", 82, "ShadowWardModel", "q", "I"),
  ("ShadowWardModel", 7, "ShadowWardModel", "memory", "[B"),
  ("ShadowWardModel", 13, "ShadowWardModel", "shadows", "[I"),
  ("ShadowWardModel", 17, "ShadowWardModel", "globalAt", "[I"),
  ("ShadowWardModel", 20, "ShadowWardModel", "globalSize", "[I"),
  ("ShadowWardModel", 92, "ShadowWardModel", "globals", "I"),
  ("ShadowWardModel", 23, "ShadowWardModel", "frameAt", "[I"),
  ("ShadowWardModel", 26, "ShadowWardModel", "frameEnd", "[I"),
  ("ShadowWardModel", 29, "ShadowWardModel", "variables", "[I"),
  ("ShadowWardModel", 32, "ShadowWardModel", "varAt", "[I"),
  ("ShadowWardModel", 35, "ShadowWardModel", "varSize", "[I"),
  ("ShadowWardModel", 38, "ShadowWardModel", "outOfScope", "[Z"),
  ("ShadowWardModel", 102, "ShadowWardModel", "frames", "I"),
  ("ShadowWardModel", 42, "ShadowWardModel", "blockAt", "[I"),
  ("ShadowWardModel", 45, "ShadowWardModel", "blockSize", "[I"),
  ("ShadowWardModel", 48, "ShadowWardModel", "blockKind", "[I"),
  ("ShadowWardModel", 51, "ShadowWardModel", "blockState", "[I"),
  ("ShadowWardModel", 54, "ShadowWardModel", "chunkAt", "[I"),
  ("ShadowWardModel", 57, "ShadowWardModel", "chunkSize", "[I"),
  ("ShadowWardModel", 60, "ShadowWardModel", "givenAt", "[I"),
  ("ShadowWardModel", 63, "ShadowWardModel", "freedAt", "[I"),
  ("ShadowWardModel", 117, "ShadowWardModel", "blocks", "I"),
  ("ShadowWardModel", 66, "ShadowWardModel", "quarantine", "[I"),
  ("ShadowWardModel", 123, "ShadowWardModel", "held", "I"),
  ("ShadowWardModel", 69, "ShadowWardModel", "reports", "[I"),
  ("ShadowWardModel", 157, "ShadowWardModel", "reportCount", "I"),
  ("ShadowWardModel", 72, "ShadowWardModel", "found", "[Z"),
  ("ShadowWardModel", 75, "ShadowWardModel", "moved", "[B")]
def zML : List (String × Nat × MethodName) := [("ShadowWardLaw", 94, ⟨"ShadowWard", "<init>", "(II)V"⟩),
  ("ShadowWard", 1, ⟨"java/lang/Object", "<init>", "()V"⟩),
  ("ShadowWard", 9, ⟨"ShadowWard$Memory", "<init>", "(I)V"⟩),
  ("ShadowWard$Memory", 3, ⟨"java/lang/Object", "<init>", "()V"⟩),
  ("ShadowWard$Memory", 28, ⟨"ShadowWard$Memory", "paint", "(III)V"⟩),
  ("ShadowWard$Memory", 36, ⟨"java/lang/Math", "min", "(II)I"⟩),
  ("ShadowWard$Memory", 41, ⟨"java/lang/Math", "max", "(II)I"⟩),
  ("ShadowWard", 20, ⟨"ShadowWard$Globals", "<init>", "(LShadowWard$Memory;)V"⟩),
  ("ShadowWard$Globals", 3, ⟨"java/lang/Object", "<init>", "()V"⟩),
  ("ShadowWard$Globals", 11, ⟨"java/util/ArrayList", "<init>", "()V"⟩),
  ("java/util/ArrayList", 1, ⟨"java/util/AbstractList", "<init>", "()V"⟩),
  ("java/util/AbstractList", 1, ⟨"java/util/AbstractCollection", "<init>", "()V"⟩),
  ("java/util/AbstractCollection", 1, ⟨"java/lang/Object", "<init>", "()V"⟩),
  ("ShadowWard", 29, ⟨"ShadowWard$Frames", "<init>", "(LShadowWard$Memory;)V"⟩),
  ("ShadowWard$Frames", 3, ⟨"java/lang/Object", "<init>", "()V"⟩),
  ("ShadowWard$Frames", 11, ⟨"java/util/ArrayList", "<init>", "()V"⟩),
  ("ShadowWard", 36, ⟨"ShadowWard$Heap", "<init>", "(LShadowWard$Memory;I)V"⟩),
  ("ShadowWard$Heap", 3, ⟨"java/lang/Object", "<init>", "()V"⟩),
  ("ShadowWard$Heap", 11, ⟨"java/util/ArrayList", "<init>", "()V"⟩),
  ("ShadowWard", 45, ⟨"ShadowWard$LostSearch", "<init>", "(LShadowWard$Memory;LShadowWard$Globals;LShadowWard$Frames;LShadowWard$Heap;)V"⟩),
  ("ShadowWard$LostSearch", 3, ⟨"java/lang/Object", "<init>", "()V"⟩),
  ("ShadowWard$LostSearch", 11, ⟨"java/util/ArrayList", "<init>", "()V"⟩),
  ("ShadowWard", 54, ⟨"java/util/ArrayList", "<init>", "()V"⟩),
  ("ShadowWardLaw", 149, ⟨"ShadowWard", "length", "(I)I"⟩),
  ("ShadowWard", 141, ⟨"ShadowWard", "permits", "(III)Z"⟩),
  ("ShadowWard", 267, ⟨"ShadowWard$Memory", "firstWrong", "(II)I"⟩),
  ("ShadowWard$Memory", 59, ⟨"ShadowWard$Memory", "isGood", "(I)Z"⟩),
  ("ShadowWard$Memory", 52, ⟨"ShadowWard$Memory", "isAddress", "(I)Z"⟩),
  ("ShadowWard$Memory", 56, ⟨"ShadowWard$Memory", "shadowOf", "(I)I"⟩),
  ("ShadowWard$Memory", 48, ⟨"ShadowWard$Memory", "goodBytes", "(I)I"⟩),
  ("ShadowWard", 270, ⟨"ShadowWard$Memory", "kindOfWrong", "(I)I"⟩),
  ("ShadowWard", 160, ⟨"ShadowWard", "tell", "(IIII)V"⟩),
  ("ShadowWard", 187, ⟨"java/util/ArrayList", "size", "()I"⟩),
  ("ShadowWard", 273, ⟨"ShadowWard$Memory", "isAddress", "(I)Z"⟩),
  ("ShadowWard", 279, ⟨"ShadowWard$Globals", "nearestTo", "(I)LShadowWard$Region;"⟩),
  ("ShadowWard$Globals", 34, ⟨"java/util/ArrayList", "size", "()I"⟩),
  ("ShadowWard$Globals", 48, ⟨"java/util/ArrayList", "get", "(I)Ljava/lang/Object;"⟩),
  ("java/util/ArrayList", 118, ⟨"java/util/Objects", "checkIndex", "(II)I"⟩),
  ("java/util/Objects", 105, ⟨"jdk/internal/util/Preconditions", "checkIndex", "(IILjava/util/function/BiFunction;)I"⟩),
  ("java/util/ArrayList", 123, ⟨"java/util/ArrayList", "elementData", "(I)Ljava/lang/Object;"⟩),
  ("ShadowWard", 295, ⟨"ShadowWard$Region", "farFrom", "(I)I"⟩),
  ("ShadowWard", 175, ⟨"java/lang/Integer", "compare", "(II)I"⟩),
  ("ShadowWard", 286, ⟨"ShadowWard$Frames", "nearestTo", "(I)LShadowWard$Region;"⟩),
  ("ShadowWard$Frames", 34, ⟨"ShadowWard$Frames", "count", "()I"⟩),
  ("ShadowWard$Frames", 22, ⟨"java/util/ArrayList", "size", "()I"⟩),
  ("ShadowWard$Frames", 43, ⟨"java/util/ArrayList", "get", "(I)Ljava/lang/Object;"⟩),
  ("ShadowWard", 287, ⟨"ShadowWard$Heap", "nearestTo", "(I)LShadowWard$Region;"⟩),
  ("ShadowWard$Heap", 52, ⟨"java/util/ArrayList", "size", "()I"⟩),
  ("ShadowWard$Heap", 131, ⟨"java/util/ArrayList", "get", "(I)Ljava/lang/Object;"⟩),
  ("ShadowWard", 288, ⟨"ShadowWard$Report", "<init>", "(IIIILShadowWard$Region;)V"⟩),
  ("ShadowWard$Report", 3, ⟨"java/lang/Object", "<init>", "()V"⟩),
  ("ShadowWard$Report", 46, ⟨"ShadowWard$Region", "farFrom", "(I)I"⟩),
  ("ShadowWard$Report", 50, ⟨"ShadowWard$Region", "sideOf", "(I)I"⟩),
  ("ShadowWard", 291, ⟨"java/util/ArrayList", "add", "(Ljava/lang/Object;)Z"⟩),
  ("java/util/ArrayList", 131, ⟨"java/util/ArrayList", "add", "(Ljava/lang/Object;[Ljava/lang/Object;I)V"⟩),
  ("java/util/ArrayList", 129, ⟨"java/util/ArrayList", "grow", "()[Ljava/lang/Object;"⟩),
  ("java/util/ArrayList", 69, ⟨"java/util/ArrayList", "grow", "(I)[Ljava/lang/Object;"⟩),
  ("java/util/ArrayList", 73, ⟨"jdk/internal/util/ArraysSupport", "newLength", "(III)I"⟩),
  ("jdk/internal/util/ArraysSupport", 194, ⟨"java/lang/Math", "max", "(II)I"⟩),
  ("jdk/internal/util/ArraysSupport", 201, ⟨"jdk/internal/util/ArraysSupport", "hugeLength", "(II)I"⟩),
  ("java/util/ArrayList", 66, ⟨"java/util/Arrays", "copyOf", "([Ljava/lang/Object;I)[Ljava/lang/Object;"⟩),
  ("java/util/Arrays", 86, ⟨"java/lang/Object", "getClass", "()Ljava/lang/Class;"⟩),
  ("java/util/Arrays", 300, ⟨"java/util/Arrays", "copyOf", "([Ljava/lang/Object;ILjava/lang/Class;)[Ljava/lang/Object;"⟩),
  ("java/util/Arrays", 304, ⟨"java/lang/Math", "min", "(II)I"⟩),
  ("java/util/Arrays", 150, ⟨"java/lang/System", "arraycopy", "(Ljava/lang/Object;ILjava/lang/Object;II)V"⟩),
  ("java/util/ArrayList", 79, ⟨"java/lang/Math", "max", "(II)I"⟩),
  ("ShadowWard", 165, ⟨"ShadowWard$Memory", "byteAt", "(I)I"⟩),
  ("ShadowWardLaw", 153, ⟨"ShadowWard", "text", "(II)I"⟩),
  ("ShadowWard", 168, ⟨"ShadowWard", "length", "(I)I"⟩),
  ("ShadowWard", 171, ⟨"ShadowWard", "copy", "(IIIZ)Z"⟩),
  ("ShadowWard", 106, ⟨"ShadowWard", "isCount", "(I)Z"⟩),
  ("ShadowWard", 59, ⟨"ShadowWard", "demand", "(Z)V"⟩),
  ("java/lang/Throwable", 1, ⟨"java/lang/Object", "<init>", "()V"⟩),
  ("java/lang/Throwable", 27, ⟨"java/lang/Throwable", "fillInStackTrace", "()Ljava/lang/Throwable;"⟩),
  ("java/lang/Throwable", 202, ⟨"java/lang/Throwable", "fillInStackTrace", "(I)Ljava/lang/Throwable;"⟩),
  ("ShadowWard", 244, ⟨"java/lang/IllegalArgumentException", "<init>", "(Ljava/lang/String;)V"⟩),
  ("java/lang/IllegalArgumentException", 7, ⟨"java/lang/RuntimeException", "<init>", "(Ljava/lang/String;)V"⟩),
  ("java/lang/RuntimeException", 7, ⟨"java/lang/Exception", "<init>", "(Ljava/lang/String;)V"⟩),
  ("java/lang/Exception", 7, ⟨"java/lang/Throwable", "<init>", "(Ljava/lang/String;)V"⟩),
  ("ShadowWard", 156, ⟨"java/lang/Math", "abs", "(J)J"⟩),
  ("ShadowWard", 137, ⟨"ShadowWard$Memory", "moveBytes", "(III)V"⟩),
  ("ShadowWard$Memory", 44, ⟨"ShadowWard$Memory", "holds", "(II)Z"⟩),
  ("ShadowWard$Memory", 65, ⟨"java/lang/System", "arraycopy", "(Ljava/lang/Object;ILjava/lang/Object;II)V"⟩),
  ("ShadowWardLaw", 181, ⟨"ShadowWard", "lost", "(IZ)I"⟩),
  ("ShadowWard", 217, ⟨"ShadowWard$LostSearch", "firstFrom", "(IZ)I"⟩),
  ("ShadowWard$LostSearch", 34, ⟨"ShadowWard$LostSearch", "markFound", "()V"⟩),
  ("ShadowWard$LostSearch", 73, ⟨"java/util/ArrayList", "clear", "()V"⟩),
  ("ShadowWard$LostSearch", 51, ⟨"java/util/ArrayList", "size", "()I"⟩),
  ("ShadowWard$LostSearch", 55, ⟨"java/util/ArrayList", "get", "(I)Ljava/lang/Object;"⟩),
  ("ShadowWard$LostSearch", 85, ⟨"ShadowWard$LostSearch", "findFrom", "(LShadowWard$Region;)V"⟩),
  ("ShadowWard$LostSearch", 112, ⟨"ShadowWard$LostSearch", "ledToFrom", "(I)LShadowWard$Block;"⟩),
  ("ShadowWard$LostSearch", 126, ⟨"ShadowWard$Memory", "number", "(II)J"⟩),
  ("ShadowWard$Memory", 62, ⟨"ShadowWard$Memory", "byteAt", "(I)I"⟩),
  ("ShadowWard$LostSearch", 132, ⟨"ShadowWard$Heap", "liveBlockWith", "(I)LShadowWard$Block;"⟩),
  ("ShadowWard$Heap", 123, ⟨"ShadowWard$Heap", "chunkOwner", "(I)LShadowWard$Block;"⟩),
  ("ShadowWard$Heap", 127, ⟨"ShadowWard$Block", "hasByte", "(I)Z"⟩),
  ("ShadowWard$LostSearch", 116, ⟨"java/util/ArrayList", "add", "(Ljava/lang/Object;)Z"⟩),
  ("ShadowWard$LostSearch", 89, ⟨"ShadowWard$Frames", "count", "()I"⟩),
  ("ShadowWard$LostSearch", 37, ⟨"ShadowWard$LostSearch", "markLedToByLost", "()V"⟩),
  ("ShadowWard$LostSearch", 61, ⟨"ShadowWard$Block", "isLost", "()Z"⟩),
  ("ShadowWard$LostSearch", 120, ⟨"ShadowWard$LostSearch", "markLedToFrom", "(LShadowWard$Block;)V"⟩),
  ("ShadowWard$LostSearch", 40, ⟨"java/lang/Math", "max", "(II)I"⟩),
  ("ShadowWardLaw", 88, ⟨"ShadowWardLaw", "cell", "([II)I"⟩),
  ("ShadowWardLaw", 100, ⟨"ShadowWardLaw", "global", "(LShadowWard;I[J)I"⟩),
  ("ShadowWardLaw", 7, ⟨"ShadowWard", "global", "(I)I"⟩),
  ("ShadowWard", 63, ⟨"ShadowWard$Globals", "place", "(I)I"⟩),
  ("ShadowWard$Globals", 22, ⟨"ShadowWard$Globals", "nextAddress", "()I"⟩),
  ("ShadowWard$Globals", 37, ⟨"ShadowWard$Region", "<init>", "(IIIII)V"⟩),
  ("ShadowWard$Region", 1, ⟨"java/lang/Object", "<init>", "()V"⟩),
  ("ShadowWard$Globals", 40, ⟨"java/util/ArrayList", "add", "(Ljava/lang/Object;)Z"⟩),
  ("ShadowWard$Globals", 44, ⟨"ShadowWard$Memory", "open", "(II)V"⟩),
  ("ShadowWardLaw", 107, ⟨"ShadowWardLaw", "enter", "(LShadowWard;IIII[J)I"⟩),
  ("ShadowWardLaw", 15, ⟨"ShadowWard", "enter", "(IIII)I"⟩),
  ("ShadowWard", 67, ⟨"ShadowWard", "isVariableSize", "(I)Z"⟩),
  ("ShadowWard", 71, ⟨"ShadowWard$Frames", "push", "(IIII)I"⟩),
  ("ShadowWard$Frames", 30, ⟨"ShadowWard$Frames", "spanOf", "(I)I"⟩),
  ("ShadowWard$Frames", 55, ⟨"ShadowWard$Frame", "<init>", "(II)V"⟩),
  ("ShadowWard$Frame", 1, ⟨"java/lang/Object", "<init>", "()V"⟩),
  ("ShadowWard$Frame", 9, ⟨"java/util/ArrayList", "<init>", "()V"⟩),
  ("ShadowWard$Frames", 58, ⟨"ShadowWard$Frames", "addVariable", "(LShadowWard$Frame;II)I"⟩),
  ("ShadowWard$Frames", 75, ⟨"ShadowWard$Variable", "<init>", "(III)V"⟩),
  ("ShadowWard$Variable", 3, ⟨"ShadowWard$Region", "<init>", "(IIIII)V"⟩),
  ("ShadowWard$Frames", 62, ⟨"java/util/ArrayList", "add", "(Ljava/lang/Object;)Z"⟩),
  ("ShadowWard$Frames", 66, ⟨"ShadowWard$Frames", "paintFrame", "(LShadowWard$Frame;)V"⟩),
  ("ShadowWard$Frames", 78, ⟨"ShadowWard$Memory", "paint", "(III)V"⟩),
  ("ShadowWard$Frames", 84, ⟨"ShadowWard$Memory", "open", "(II)V"⟩),
  ("ShadowWardLaw", 111, ⟨"ShadowWardLaw", "leave", "(LShadowWard;[J)I"⟩),
  ("ShadowWardLaw", 19, ⟨"ShadowWard", "leave", "()I"⟩),
  ("ShadowWard", 75, ⟨"ShadowWard$Frames", "count", "()I"⟩),
  ("ShadowWard", 83, ⟨"java/lang/IllegalStateException", "<init>", "(Ljava/lang/String;)V"⟩),
  ("java/lang/IllegalStateException", 7, ⟨"java/lang/RuntimeException", "<init>", "(Ljava/lang/String;)V"⟩),
  ("ShadowWard", 86, ⟨"ShadowWard$Frames", "pop", "()V"⟩),
  ("ShadowWard$Frames", 87, ⟨"java/util/ArrayList", "remove", "(I)Ljava/lang/Object;"⟩),
  ("java/util/ArrayList", 144, ⟨"java/util/ArrayList", "fastRemove", "([Ljava/lang/Object;I)V"⟩),
  ("java/util/ArrayList", 112, ⟨"java/lang/System", "arraycopy", "(Ljava/lang/Object;ILjava/lang/Object;II)V"⟩),
  ("ShadowWardLaw", 115, ⟨"ShadowWardLaw", "scope", "(LShadowWard;IIZ[J)I"⟩),
  ("ShadowWardLaw", 25, ⟨"ShadowWard", "scope", "(IIZ)Z"⟩),
  ("ShadowWard", 89, ⟨"ShadowWard", "variableOf", "(II)LShadowWard$Variable;"⟩),
  ("ShadowWard", 189, ⟨"ShadowWard", "demandIndex", "(II)V"⟩),
  ("ShadowWard", 249, ⟨"java/lang/IndexOutOfBoundsException", "<init>", "(Ljava/lang/String;)V"⟩),
  ("java/lang/IndexOutOfBoundsException", 7, ⟨"java/lang/RuntimeException", "<init>", "(Ljava/lang/String;)V"⟩),
  ("ShadowWard", 193, ⟨"java/util/ArrayList", "get", "(I)Ljava/lang/Object;"⟩),
  ("ShadowWard", 93, ⟨"ShadowWard$Frames", "setScope", "(LShadowWard$Variable;Z)Z"⟩),
  ("ShadowWardLaw", 119, ⟨"ShadowWardLaw", "variable", "(LShadowWard;II[J)I"⟩),
  ("ShadowWardLaw", 31, ⟨"ShadowWard", "variable", "(II)I"⟩),
  ("ShadowWardLaw", 123, ⟨"ShadowWardLaw", "allocate", "(LShadowWard;III[J)I"⟩),
  ("ShadowWardLaw", 35, ⟨"ShadowWard", "allocate", "(III)I"⟩),
  ("ShadowWard", 103, ⟨"ShadowWard", "isBlockKind", "(I)Z"⟩),
  ("ShadowWard", 109, ⟨"ShadowWard$Heap", "give", "(III)LShadowWard$Block;"⟩),
  ("ShadowWard$Heap", 55, ⟨"ShadowWard$Block", "chunkBytesFor", "(I)I"⟩),
  ("ShadowWard$Block", 3, ⟨"ShadowWard$Block", "redzone", "(I)I"⟩),
  ("ShadowWard$Heap", 59, ⟨"ShadowWard$Heap", "unitWithRoom", "(I)I"⟩),
  ("ShadowWard$Heap", 93, ⟨"ShadowWard$Heap", "firstFreeRun", "(I)I"⟩),
  ("ShadowWard$Heap", 96, ⟨"ShadowWard$Heap", "releaseOldest", "()V"⟩),
  ("ShadowWard$Heap", 115, ⟨"java/util/ArrayList", "isEmpty", "()Z"⟩),
  ("ShadowWard$Heap", 119, ⟨"java/util/ArrayList", "remove", "(I)Ljava/lang/Object;"⟩),
  ("ShadowWard$Heap", 86, ⟨"ShadowWard$Memory", "paint", "(III)V"⟩),
  ("ShadowWard$Heap", 69, ⟨"ShadowWard$Heap", "setOwner", "(LShadowWard$Block;LShadowWard$Block;)V"⟩),
  ("ShadowWard$Heap", 99, ⟨"java/lang/Math", "max", "(II)I"⟩),
  ("ShadowWard$Heap", 105, ⟨"java/lang/Math", "min", "(II)I"⟩),
  ("ShadowWard$Heap", 62, ⟨"ShadowWard$Block", "<init>", "(IIIII)V"⟩),
  ("ShadowWard$Block", 9, ⟨"ShadowWard$Region", "<init>", "(IIIII)V"⟩),
  ("ShadowWard$Block", 25, ⟨"ShadowWard$Block", "chunkBytesFor", "(I)I"⟩),
  ("ShadowWard$Heap", 65, ⟨"java/util/ArrayList", "add", "(Ljava/lang/Object;)Z"⟩),
  ("ShadowWard$Heap", 79, ⟨"ShadowWard$Memory", "setBytes", "(III)V"⟩),
  ("ShadowWard$Heap", 89, ⟨"ShadowWard$Memory", "open", "(II)V"⟩),
  ("ShadowWardLaw", 127, ⟨"ShadowWardLaw", "free", "(LShadowWard;III[J)I"⟩),
  ("ShadowWardLaw", 39, ⟨"ShadowWard", "free", "(III)Z"⟩),
  ("ShadowWard", 116, ⟨"ShadowWard", "blockToFree", "(II)LShadowWard$Block;"⟩),
  ("ShadowWard", 257, ⟨"ShadowWard$Heap", "blockAt", "(I)LShadowWard$Block;"⟩),
  ("ShadowWard", 120, ⟨"ShadowWard$Heap", "takeBack", "(LShadowWard$Block;I)V"⟩),
  ("ShadowWardLaw", 130, ⟨"ShadowWardLaw", "resize", "(LShadowWard;III[J)I"⟩),
  ("ShadowWardLaw", 43, ⟨"ShadowWard", "resize", "(III)I"⟩),
  ("ShadowWard", 124, ⟨"ShadowWard", "allocate", "(III)I"⟩),
  ("ShadowWard", 131, ⟨"java/lang/Math", "min", "(II)I"⟩),
  ("ShadowWardLaw", 133, ⟨"ShadowWardLaw", "load", "(LShadowWard;II[J)I"⟩),
  ("ShadowWardLaw", 46, ⟨"ShadowWard", "load", "(II)J"⟩),
  ("ShadowWard", 145, ⟨"ShadowWard$Memory", "number", "(II)J"⟩),
  ("ShadowWardLaw", 138, ⟨"ShadowWardLaw", "store", "(LShadowWard;IIJ[J)I"⟩),
  ("ShadowWardLaw", 50, ⟨"ShadowWard", "store", "(IIJ)Z"⟩),
  ("ShadowWard", 149, ⟨"ShadowWard$Memory", "setNumber", "(IIJ)V"⟩),
  ("ShadowWardLaw", 142, ⟨"ShadowWardLaw", "fill", "(LShadowWard;III[J)I"⟩),
  ("ShadowWardLaw", 54, ⟨"ShadowWard", "fill", "(III)Z"⟩),
  ("ShadowWard", 153, ⟨"ShadowWard$Memory", "setBytes", "(III)V"⟩),
  ("ShadowWardLaw", 145, ⟨"ShadowWardLaw", "copy", "(LShadowWard;IIIZ[J)I"⟩),
  ("ShadowWardLaw", 57, ⟨"ShadowWard", "copy", "(IIIZ)Z"⟩),
  ("ShadowWardLaw", 157, ⟨"ShadowWardLaw", "compare", "(LShadowWard;III[J)I"⟩),
  ("ShadowWardLaw", 61, ⟨"ShadowWard", "compare", "(III)I"⟩),
  ("ShadowWardLaw", 160, ⟨"ShadowWardLaw", "lock", "(LShadowWard;II[J)I"⟩),
  ("ShadowWardLaw", 64, ⟨"ShadowWard", "lock", "(II)I"⟩),
  ("ShadowWard", 180, ⟨"ShadowWard$Memory", "holds", "(II)Z"⟩),
  ("ShadowWard", 184, ⟨"ShadowWard$Memory", "exchangeWhole", "(IIII)I"⟩),
  ("ShadowWardLaw", 163, ⟨"ShadowWardLaw", "unlock", "(LShadowWard;II[J)I"⟩),
  ("ShadowWardLaw", 67, ⟨"ShadowWard", "unlock", "(II)I"⟩),
  ("ShadowWardLaw", 166, ⟨"ShadowWardLaw", "report", "(LShadowWard;II[J)I"⟩),
  ("ShadowWardLaw", 70, ⟨"ShadowWard", "report", "(II)I"⟩),
  ("ShadowWard", 199, ⟨"ShadowWard$Report", "answer", "(I)I"⟩),
  ("ShadowWardLaw", 169, ⟨"ShadowWardLaw", "block", "(LShadowWard;II[J)I"⟩),
  ("ShadowWardLaw", 73, ⟨"ShadowWard", "block", "(II)I"⟩),
  ("ShadowWard", 205, ⟨"ShadowWard$Block", "answer", "(I)I"⟩),
  ("ShadowWardLaw", 172, ⟨"ShadowWardLaw", "shadow", "(LShadowWard;I[J)I"⟩),
  ("ShadowWardLaw", 76, ⟨"ShadowWard", "shadow", "(I)I"⟩),
  ("ShadowWard", 206, ⟨"ShadowWard$Memory", "granules", "()I"⟩),
  ("ShadowWard", 209, ⟨"ShadowWard$Memory", "shadowOf", "(I)I"⟩),
  ("ShadowWardLaw", 175, ⟨"ShadowWardLaw", "peek", "(LShadowWard;I[J)I"⟩),
  ("ShadowWardLaw", 79, ⟨"ShadowWard", "peek", "(I)I"⟩),
  ("ShadowWardLaw", 178, ⟨"ShadowWardLaw", "held", "(LShadowWard;I[J)I"⟩),
  ("ShadowWardLaw", 82, ⟨"ShadowWard", "held", "(I)I"⟩),
  ("ShadowWardLaw", 186, ⟨"ShadowWardLaw", "told", "(LShadowWard;I[J)I"⟩),
  ("ShadowWardLaw", 85, ⟨"ShadowWard", "told", "(I)I"⟩),
  ("ShadowWard", 236, ⟨"ShadowWard$Memory", "goodAddresses", "()I"⟩),
  ("ShadowWard", 239, ⟨"ShadowWard$LostSearch", "count", "()I"⟩),
  ("ShadowWardLaw", 99, ⟨"ShadowWardModel", "<init>", "(II)V"⟩),
  ("ShadowWardModel", 1, ⟨"java/lang/Object", "<init>", "()V"⟩),
  ("ShadowWardLaw", 104, ⟨"ShadowWardModel", "thrown", "()I"⟩),
  ("ShadowWardLaw", 103, ⟨"ShadowWardModel", "global", "(I)I"⟩),
  ("ShadowWardModel", 88, ⟨"ShadowWardModel", "refuses", "(I)Z"⟩),
  ("ShadowWardModel", 95, ⟨"ShadowWardModel", "opens", "(II)V"⟩),
  ("ShadowWardLaw", 110, ⟨"ShadowWardModel", "enter", "(IIII)I"⟩),
  ("ShadowWardModel", 99, ⟨"ShadowWardModel", "isSize", "(I)Z"⟩),
  ("ShadowWardModel", 105, ⟨"ShadowWardModel", "padded", "(I)I"⟩),
  ("ShadowWardModel", 109, ⟨"ShadowWardModel", "paint", "(III)V"⟩),
  ("ShadowWardLaw", 114, ⟨"ShadowWardModel", "leave", "()I"⟩),
  ("ShadowWardLaw", 118, ⟨"ShadowWardModel", "scope", "(IIZ)Z"⟩),
  ("ShadowWardModel", 113, ⟨"ShadowWardModel", "noVariable", "(II)Z"⟩),
  ("ShadowWardLaw", 122, ⟨"ShadowWardModel", "variable", "(II)I"⟩),
  ("ShadowWardLaw", 126, ⟨"ShadowWardModel", "allocate", "(III)I"⟩),
  ("ShadowWardModel", 135, ⟨"ShadowWardModel", "given", "(III)I"⟩),
  ("ShadowWardModel", 126, ⟨"ShadowWardModel", "redzone", "(I)I"⟩),
  ("ShadowWardModel", 129, ⟨"ShadowWardModel", "placeFor", "(I)I"⟩),
  ("ShadowWardModel", 120, ⟨"ShadowWardModel", "isFree", "(II)Z"⟩),
  ("ShadowWardModel", 132, ⟨"ShadowWardModel", "oldestLeaves", "()V"⟩),
  ("ShadowWardLaw", 129, ⟨"ShadowWardModel", "free", "(III)Z"⟩),
  ("ShadowWardModel", 151, ⟨"ShadowWardModel", "mayGo", "(II)I"⟩),
  ("ShadowWardModel", 143, ⟨"ShadowWardModel", "blockIn", "(II)I"⟩),
  ("ShadowWardModel", 147, ⟨"ShadowWardModel", "tells", "(IJIZ)V"⟩),
  ("ShadowWardModel", 160, ⟨"ShadowWardModel", "nearer", "(IJIIII)V"⟩),
  ("ShadowWardModel", 164, ⟨"ShadowWardModel", "far", "(JII)J"⟩),
  ("ShadowWardModel", 168, ⟨"ShadowWardModel", "regionAt", "(II)I"⟩),
  ("ShadowWardModel", 154, ⟨"ShadowWardModel", "goes", "(II)V"⟩),
  ("ShadowWardModel", 139, ⟨"ShadowWardModel", "heldBytes", "()I"⟩),
  ("ShadowWardLaw", 132, ⟨"ShadowWardModel", "resize", "(III)I"⟩),
  ("ShadowWardLaw", 135, ⟨"ShadowWardModel", "load", "(II)J"⟩),
  ("ShadowWardModel", 177, ⟨"ShadowWardModel", "right", "(JIIIZ)Z"⟩),
  ("ShadowWardModel", 173, ⟨"ShadowWardModel", "wrong", "(J)I"⟩),
  ("ShadowWardLaw", 141, ⟨"ShadowWardModel", "store", "(IIJ)Z"⟩),
  ("ShadowWardLaw", 144, ⟨"ShadowWardModel", "fill", "(III)Z"⟩),
  ("ShadowWardModel", 181, ⟨"ShadowWardModel", "noAmount", "(I)Z"⟩),
  ("ShadowWardLaw", 148, ⟨"ShadowWardModel", "copy", "(IIIZ)Z"⟩),
  ("ShadowWardModel", 184, ⟨"ShadowWardModel", "copies", "(IIIZ)Z"⟩),
  ("ShadowWardLaw", 152, ⟨"ShadowWardModel", "length", "(I)I"⟩),
  ("ShadowWardModel", 188, ⟨"ShadowWardModel", "lengthOf", "(I)I"⟩),
  ("ShadowWardLaw", 156, ⟨"ShadowWardModel", "text", "(II)I"⟩),
  ("ShadowWardLaw", 159, ⟨"ShadowWardModel", "compare", "(III)I"⟩),
  ("ShadowWardLaw", 162, ⟨"ShadowWardModel", "lock", "(II)I"⟩),
  ("ShadowWardModel", 191, ⟨"ShadowWardModel", "change", "(IIII)I"⟩),
  ("ShadowWardLaw", 165, ⟨"ShadowWardModel", "unlock", "(II)I"⟩),
  ("ShadowWardLaw", 168, ⟨"ShadowWardModel", "report", "(II)I"⟩),
  ("ShadowWardLaw", 171, ⟨"ShadowWardModel", "block", "(II)I"⟩),
  ("ShadowWardLaw", 174, ⟨"ShadowWardModel", "shadow", "(I)I"⟩),
  ("ShadowWardLaw", 177, ⟨"ShadowWardModel", "peek", "(I)I"⟩),
  ("ShadowWardLaw", 180, ⟨"ShadowWardModel", "held", "(I)I"⟩),
  ("ShadowWardLaw", 185, ⟨"ShadowWardModel", "lost", "(IZ)I"⟩),
  ("ShadowWardModel", 211, ⟨"ShadowWardModel", "walk", "()V"⟩),
  ("ShadowWardModel", 205, ⟨"ShadowWardModel", "isRooted", "(I)Z"⟩),
  ("ShadowWardModel", 201, ⟨"ShadowWardModel", "leads", "(III)Z"⟩),
  ("ShadowWardModel", 197, ⟨"ShadowWardModel", "word", "(I)J"⟩),
  ("ShadowWardModel", 208, ⟨"ShadowWardModel", "isLost", "(I)Z"⟩),
  ("ShadowWardModel", 214, ⟨"ShadowWardModel", "isAlone", "(I)Z"⟩),
  ("ShadowWardLaw", 188, ⟨"ShadowWardModel", "told", "(I)I"⟩),
  ("ShadowWardModel", 217, ⟨"ShadowWardModel", "good", "()I"⟩)]
def zMN : List (String × Nat × MethodName × String) := [("ShadowWard$Memory", 32, ⟨"ShadowWard", "roundUp", "(II)I"⟩, "ShadowWard"),
  ("ShadowWard$Globals", 59, ⟨"ShadowWard", "nearer", "(LShadowWard$Region;LShadowWard$Region;I)LShadowWard$Region;"⟩, "ShadowWard"),
  ("ShadowWard$Frames", 99, ⟨"ShadowWard", "nearer", "(LShadowWard$Region;LShadowWard$Region;I)LShadowWard$Region;"⟩, "ShadowWard"),
  ("ShadowWard$Heap", 134, ⟨"ShadowWard", "nearer", "(LShadowWard$Region;LShadowWard$Region;I)LShadowWard$Region;"⟩, "ShadowWard"),
  ("ShadowWard$Globals", 55, ⟨"ShadowWard", "roundUp", "(II)I"⟩, "ShadowWard"),
  ("ShadowWard$Frames", 26, ⟨"ShadowWard", "roundUp", "(II)I"⟩, "ShadowWard"),
  ("ShadowWard$Block", 31, ⟨"ShadowWard", "roundUp", "(II)I"⟩, "ShadowWard")]
def zKL : List (String × Nat × String) := [("ShadowWardLaw", 8, "ShadowWard"),
  ("ShadowWard", 7, "ShadowWard$Memory"),
  ("ShadowWard", 18, "ShadowWard$Globals"),
  ("ShadowWard$Globals", 9, "java/util/ArrayList"),
  ("ShadowWard", 27, "ShadowWard$Frames"),
  ("ShadowWard$Frames", 9, "java/util/ArrayList"),
  ("ShadowWard", 34, "ShadowWard$Heap"),
  ("ShadowWard$Heap", 9, "java/util/ArrayList"),
  ("ShadowWard$Heap", 46, "ShadowWard$Block"),
  ("ShadowWard", 43, "ShadowWard$LostSearch"),
  ("ShadowWard$LostSearch", 9, "java/util/ArrayList"),
  ("ShadowWard", 52, "java/util/ArrayList"),
  ("ShadowWard$Globals", 32, "ShadowWard$Region"),
  ("ShadowWard$Frames", 47, "ShadowWard$Frame"),
  ("ShadowWard$Frames", 97, "ShadowWard$Region"),
  ("ShadowWard", 197, "ShadowWard$Report"),
  ("java/util/Arrays", 110, "[Ljava/lang/Object;"),
  ("java/util/Arrays", 2, "java/lang/Object"),
  ("java/util/ArrayList", 7, "java/lang/Object"),
  ("ShadowWard", 240, "java/lang/IllegalArgumentException"),
  ("ShadowWard$LostSearch", 59, "ShadowWard$Block"),
  ("ShadowWard$LostSearch", 83, "ShadowWard$Region"),
  ("ShadowWard$LostSearch", 96, "ShadowWard$Frame"),
  ("ShadowWard$LostSearch", 101, "ShadowWard$Variable"),
  ("ShadowWardLaw", 13, "java/lang/IllegalArgumentException"),
  ("ShadowWard$Frame", 7, "java/util/ArrayList"),
  ("ShadowWard$Frames", 73, "ShadowWard$Variable"),
  ("ShadowWardLaw", 23, "java/lang/IllegalStateException"),
  ("ShadowWard", 79, "java/lang/IllegalStateException"),
  ("ShadowWardLaw", 29, "java/lang/IndexOutOfBoundsException"),
  ("ShadowWard", 245, "java/lang/IndexOutOfBoundsException"),
  ("ShadowWard", 252, "ShadowWard$Frame"),
  ("ShadowWard", 98, "ShadowWard$Variable"),
  ("ShadowWard", 114, "ShadowWard$Block"),
  ("ShadowWardLaw", 97, "ShadowWardModel")]
def zSF : List (String × String × String × String) := [("java/util/ArrayList", "java/util/AbstractList", "modCount", "I"),
  ("ShadowWard$Block", "ShadowWard$Region", "number", "I"),
  ("ShadowWard$Block", "ShadowWard$Region", "address", "I"),
  ("ShadowWard$Variable", "ShadowWard$Region", "address", "I"),
  ("ShadowWard$Block", "ShadowWard$Region", "size", "I"),
  ("ShadowWard$Variable", "ShadowWard$Region", "size", "I"),
  ("ShadowWard$Block", "ShadowWard$Region", "end", "I"),
  ("ShadowWard$Block", "ShadowWard$Region", "siteGiven", "I"),
  ("ShadowWard$Block", "ShadowWard$Region", "siteFreed", "I")]
def zisF : Jvm.Cond → Bool
  | .fieldLink _ _ _ _ _ => true
  | _ => false
def zisM : Jvm.Cond → Bool
  | .methodLink _ _ _ => true
  | _ => false
def zisN : Jvm.Cond → Bool
  | .methodLinkNest _ _ _ _ => true
  | _ => false
def zisK : Jvm.Cond → Bool
  | .classLink _ _ _ => true
  | _ => false
def zisS : Jvm.Cond → Bool
  | .sameField _ _ _ _ => true
  | _ => false
theorem zFR_eq : zFR.map (fun q => Jvm.Cond.fieldLink q.1 q.2.1 q.2.2.1 q.2.2.2.1 q.2.2.2.2) = tables_1.filter zisF := by decide +kernel
theorem zML_eq : zML.map (fun q => Jvm.Cond.methodLink q.1 q.2.1 q.2.2) = tables_1.filter zisM := by decide +kernel
theorem zMN_eq : zMN.map (fun q => Jvm.Cond.methodLinkNest q.1 q.2.1 q.2.2.1 q.2.2.2) = tables_1.filter zisN := by decide +kernel
theorem zKL_eq : zKL.map (fun q => Jvm.Cond.classLink q.1 q.2.1 q.2.2) = tables_1.filter zisK := by decide +kernel
theorem zSF_eq : zSF.map (fun q => Jvm.Cond.sameField q.1 q.2.1 q.2.2.1 q.2.2.2) = tables_1.filter zisS := by decide +kernel
theorem zmf {w : Jvm.Cond} {l : List Jvm.Cond} {p : Jvm.Cond → Bool} (h : w ∈ l.filter p) : w ∈ l := (List.mem_filter.mp h).1
theorem zpl {w : Jvm.Cond} {l ws : List Jvm.Cond} (ps : List Nat) (e : ws = ps.filterMap (fun i => l[i]?)) (h : w ∈ ws) : w ∈ l := by
  rw [e] at h
  obtain ⟨i, -, hi⟩ := List.mem_filterMap.mp h
  exact List.mem_of_getElem? hi
theorem z_in {w : Jvm.Cond} (h : w ∈ tables_1) : w ∈ lw_tbl := List.mem_append_right _ h
theorem zFR_in {t : Nat} {q : String × Nat × String × String × String} (h : zFR[t]? = some q) : Jvm.Cond.fieldLink q.1 q.2.1 q.2.2.1 q.2.2.2.1 q.2.2.2.2 ∈ lw_tbl := z_in (zmf (by rw [← zFR_eq]; exact List.mem_map.mpr ⟨q, List.mem_of_getElem? h, rfl⟩))
theorem zML_in {t : Nat} {q : String × Nat × MethodName} (h : zML[t]? = some q) : Jvm.Cond.methodLink q.1 q.2.1 q.2.2 ∈ lw_tbl := z_in (zmf (by rw [← zML_eq]; exact List.mem_map.mpr ⟨q, List.mem_of_getElem? h, rfl⟩))
theorem zMN_in {t : Nat} {q : String × Nat × MethodName × String} (h : zMN[t]? = some q) : Jvm.Cond.methodLinkNest q.1 q.2.1 q.2.2.1 q.2.2.2 ∈ lw_tbl := z_in (zmf (by rw [← zMN_eq]; exact List.mem_map.mpr ⟨q, List.mem_of_getElem? h, rfl⟩))
theorem zKL_in {t : Nat} {q : String × Nat × String} (h : zKL[t]? = some q) : Jvm.Cond.classLink q.1 q.2.1 q.2.2 ∈ lw_tbl := z_in (zmf (by rw [← zKL_eq]; exact List.mem_map.mpr ⟨q, List.mem_of_getElem? h, rfl⟩))
theorem zSF_in {q : String × String × String × String} (h : q ∈ zSF) : Jvm.Cond.sameField q.1 q.2.1 q.2.2.1 q.2.2.2 ∈ lw_tbl := z_in (zmf (by rw [← zSF_eq]; exact List.mem_map.mpr ⟨q, h, rfl⟩))
/-! the classes of the objects, by number: name, fields, how many, types -/
def zcl : Nat → String × u_T × Nat × (Nat → FieldType) := fun c => match c with
  | 0 => (RJx4a65c, TJx4a65c, 3, tyJx4a65c)
  | 1 => (RX0, TX0, 13, tyX0)
  | 2 => (RX1, TX1, 3, tyX1)
  | 3 => (RX2, TX2, 2, tyX2)
  | 4 => (RX3, TX3, 2, tyX3)
  | 5 => (RX4, TX4, 8, tyX4)
  | 6 => (RX5, TX5, 5, tyX5)
  | 7 => (RX6, TX6, 5, tyX6)
  | 8 => (RX7, TX7, 7, tyX7)
  | 9 => (RX8, TX8, 10, tyX8)
  | 10 => (RX9, TX9, 8, tyX9)
  | 11 => (RX10, TX10, 6, tyX10)
  | _ => (RX11, TX11, 30, tyX11)
def zclok (c : Nat) : Prop := vwCl[c]? = some ((zcl c).1, (zcl c).2.1, (zcl c).2.2.1) ∧ (∀ w ∈ u_ws (zcl c).1 (zcl c).2.1 (zcl c).2.2.1, w ∈ lw_tbl) ∧ (∀ k, k < (zcl c).2.2.1 → parseFieldDescriptor ((zcl c).2.1 k).2.2.1 = some ((zcl c).2.2.2 k)) ∧ ∀ a, a < (zcl c).2.2.1 → ∀ b, b < (zcl c).2.2.1 → a ≠ b → ((zcl c).2.1 a).2.1 ≠ ((zcl c).2.1 b).2.1
theorem zcl_0 : zclok 0 := ⟨rfl, fun w h => z_in (zpl [110, 106, 108] (show u_ws RJx4a65c TJx4a65c 3 = _ by decide +kernel) h), tyJx4a65c_ok, nmJx4a65c⟩
theorem zcl_1 : zclok 1 := ⟨rfl, fun w h => z_in (zpl [899, 900, 901, 902, 903, 904, 905, 887, 889, 891, 893, 895, 897] (show u_ws RX0 TX0 13 = _ by decide +kernel) h), tyX0_ok, nmX0⟩
theorem zcl_2 : zclok 2 := ⟨rfl, fun w h => z_in (zpl [704, 706, 708] (show u_ws RX1 TX1 3 = _ by decide +kernel) h), tyX1_ok, nmX1⟩
theorem zcl_3 : zclok 3 := ⟨rfl, fun w h => z_in (zpl [134, 136] (show u_ws RX2 TX2 2 = _ by decide +kernel) h), tyX2_ok, nmX2⟩
theorem zcl_4 : zclok 4 := ⟨rfl, fun w h => z_in (zpl [117, 119] (show u_ws RX3 TX3 2 = _ by decide +kernel) h), tyX3_ok, nmX3⟩
theorem zcl_5 : zclok 5 := ⟨rfl, fun w h => z_in (zpl [165, 167, 169, 171, 173, 175, 177, 179] (show u_ws RX4 TX4 8 = _ by decide +kernel) h), tyX4_ok, nmX4⟩
theorem zcl_6 : zclok 6 := ⟨rfl, fun w h => z_in (zpl [195, 197, 199, 201, 203] (show u_ws RX5 TX5 5 = _ by decide +kernel) h), tyX5_ok, nmX5⟩
theorem zcl_7 : zclok 7 := ⟨rfl, fun w h => z_in (zpl [69, 71, 73, 75, 77] (show u_ws RX6 TX6 5 = _ by decide +kernel) h), tyX6_ok, nmX6⟩
theorem zcl_8 : zclok 8 := ⟨rfl, fun w h => z_in (zpl [651, 653, 655, 657, 659, 661, 663] (show u_ws RX7 TX7 7 = _ by decide +kernel) h), tyX7_ok, nmX7⟩
theorem zcl_9 : zclok 9 := ⟨rfl, fun w h => z_in (zpl [345, 347, 349, 351, 353, 355, 357, 359, 361, 363] (show u_ws RX8 TX8 10 = _ by decide +kernel) h), tyX8_ok, nmX8⟩
theorem zcl_10 : zclok 10 := ⟨rfl, fun w h => z_in (zpl [726, 727, 728, 729, 730, 731, 732, 724] (show u_ws RX9 TX9 8 = _ by decide +kernel) h), tyX9_ok, nmX9⟩
theorem zcl_11 : zclok 11 := ⟨rfl, fun w h => z_in (zpl [214, 216, 218, 220, 222, 224] (show u_ws RX10 TX10 6 = _ by decide +kernel) h), tyX10_ok, nmX10⟩
theorem zcl_12 : zclok 12 := ⟨rfl, fun w h => z_in (zpl [1098, 1100, 1102, 1104, 1106, 1108, 1110, 1112, 1114, 1116, 1118, 1120, 1122, 1124, 1126, 1128, 1130, 1132, 1134, 1136, 1138, 1140, 1142, 1144, 1146, 1148, 1150, 1152, 1154, 1156] (show u_ws RX11 TX11 30 = _ by decide +kernel) h), tyX11_ok, nmX11⟩
theorem zcl_ok : ∀ c, c < 13 → zclok c := by
  intro c hc
  match c, hc with
  | 0, _ => exact zcl_0
  | 1, _ => exact zcl_1
  | 2, _ => exact zcl_2
  | 3, _ => exact zcl_3
  | 4, _ => exact zcl_4
  | 5, _ => exact zcl_5
  | 6, _ => exact zcl_6
  | 7, _ => exact zcl_7
  | 8, _ => exact zcl_8
  | 9, _ => exact zcl_9
  | 10, _ => exact zcl_10
  | 11, _ => exact zcl_11
  | 12, _ => exact zcl_12
  | c + 13, hc => omega
/-- field numbers: in an object of class c, of the field link t -/
def zFK : List (List (Nat × Nat)) := [[(14, 1), (15, 2), (16, 0), (17, 0)],
  [(71, 0), (72, 0), (73, 1), (74, 1), (75, 1), (76, 2), (77, 2), (78, 2), (79, 2), (80, 2), (81, 2), (82, 2), (83, 2), (84, 2), (85, 3), (86, 3), (87, 3), (88, 3), (89, 3), (90, 4), (91, 4), (92, 4), (93, 4), (94, 5), (95, 5), (96, 5), (97, 6), (98, 6), (99, 6), (111, 7), (112, 7), (113, 8), (114, 8), (115, 9), (116, 9), (117, 10), (118, 10), (119, 10), (120, 11), (121, 11), (122, 12)],
  [(100, 0), (101, 0), (102, 1), (103, 1), (104, 2), (105, 2), (106, 2), (107, 2)],
  [(22, 0), (23, 1), (24, 1), (25, 1)],
  [(18, 0), (19, 1), (20, 1), (21, 1)],
  [(26, 0), (27, 1), (28, 1), (29, 2), (30, 2), (31, 2), (32, 3), (33, 3), (34, 4), (35, 5), (36, 5), (37, 5), (38, 6), (39, 6), (40, 7), (41, 7)],
  [(42, 0), (43, 1), (44, 2), (45, 3), (46, 4)],
  [(0, 0), (1, 0), (2, 0), (3, 1), (4, 1), (5, 1), (6, 1), (7, 2), (8, 2), (9, 2), (10, 2), (11, 3), (12, 4)],
  [(71, 0), (72, 0), (73, 1), (74, 1), (75, 1), (76, 2), (77, 2), (78, 2), (79, 2), (80, 2), (81, 2), (82, 2), (83, 2), (84, 2), (85, 3), (86, 3), (87, 3), (88, 3), (89, 3), (90, 4), (91, 4), (92, 4), (93, 4), (94, 5), (95, 5), (96, 5), (97, 6), (98, 6), (99, 6)],
  [(53, 0), (54, 1), (55, 2), (56, 3), (57, 4), (58, 5), (59, 6), (60, 7), (61, 8), (62, 9)],
  [(71, 0), (72, 0), (73, 1), (74, 1), (75, 1), (76, 2), (77, 2), (78, 2), (79, 2), (80, 2), (81, 2), (82, 2), (83, 2), (84, 2), (85, 3), (86, 3), (87, 3), (88, 3), (89, 3), (90, 4), (91, 4), (92, 4), (93, 4), (94, 5), (95, 5), (96, 5), (97, 6), (98, 6), (99, 6), (108, 7), (109, 7), (110, 7)],
  [(47, 0), (48, 1), (49, 2), (50, 3), (51, 4), (52, 5)],
  [(123, 0), (124, 1), (125, 2), (126, 3), (127, 4), (128, 5), (129, 6), (130, 7), (131, 8), (132, 9), (133, 10), (134, 11), (135, 12), (136, 13), (137, 14), (138, 15), (139, 16), (140, 17), (141, 18), (142, 19), (143, 20), (144, 21), (145, 22), (146, 23), (147, 24), (148, 25), (149, 26), (150, 27), (151, 28), (152, 29)]]
def zfkE : List (Nat × Nat) → Nat → Option Nat
  | [], _ => none
  | q :: r, t => match Nat.beq q.1 t with
    | true => some q.2
    | false => zfkE r t
def zfkR : List (List (Nat × Nat)) → Nat → Nat → Option Nat
  | [], _, _ => none
  | l :: _, 0, t => zfkE l t
  | _ :: r, c + 1, t => zfkR r c t
def zfk (c t : Nat) : Option Nat := zfkR zFK c t
def zfkchk (c t k : Nat) : Bool := match zFR[t]? with
  | some q => decide (c < 13) && decide (k < (zcl c).2.2.1) && decide (((zcl c).2.1 k).2.1 = q.2.2.2.1) && decide (((zcl c).2.1 k).2.2.1 = q.2.2.2.2) && (decide (((zcl c).2.1 k).1 = q.2.2.1) || decide ((q.2.2.1, ((zcl c).2.1 k).1, q.2.2.2.1, q.2.2.2.2) ∈ zSF))
  | none => false
def zfkall : Nat → List (List (Nat × Nat)) → Bool
  | _, [] => true
  | c, l :: r => l.all (fun q => zfkchk c q.1 q.2) && zfkall (c + 1) r
theorem zfk_all : zfkall 0 zFK = true := by decide +kernel
theorem zfkE_in {l : List (Nat × Nat)} {t k : Nat} (h : zfkE l t = some k) : (t, k) ∈ l := by
  induction l with
  | nil => cases h
  | cons a r ih =>
    simp only [zfkE] at h
    split at h
    · rename_i c
      cases h
      rw [← Nat.eq_of_beq_eq_true c]
      exact List.mem_cons_self
    · exact List.mem_cons_of_mem _ (ih h)
theorem zfkR_in {l : List (List (Nat × Nat))} {b c t k : Nat} (ha : zfkall b l = true) (h : zfkR l c t = some k) : zfkchk (b + c) t k = true := by
  induction l generalizing b c with
  | nil => cases h
  | cons a r ih =>
    simp only [zfkall, Bool.and_eq_true] at ha
    cases c with
    | zero => exact List.all_eq_true.mp ha.1 _ (zfkE_in h)
    | succ c =>
      have := ih ha.2 h
      rwa [show b + 1 + c = b + (c + 1) by omega] at this
theorem zfk_ok {c t k : Nat} (h : zfk c t = some k) {q : String × Nat × String × String × String} (hq : zFR[t]? = some q) : zclok c ∧ k < (zcl c).2.2.1 ∧ ((zcl c).2.1 k).2.1 = q.2.2.2.1 ∧ ((zcl c).2.1 k).2.2.1 = q.2.2.2.2 ∧ (((zcl c).2.1 k).1 = q.2.2.1 ∨ (q.2.2.1, ((zcl c).2.1 k).1, q.2.2.2.1, q.2.2.2.2) ∈ zSF) := by
  have := zfkR_in zfk_all h
  simp only [zfkchk, Nat.zero_add, hq, Bool.and_eq_true, Bool.or_eq_true, decide_eq_true_eq] at this
  obtain ⟨⟨⟨⟨h1, h2⟩, h3⟩, h4⟩, h5⟩ := this
  exact ⟨zcl_ok c h1, h2, h3, h4, h5⟩
/-! castable pairs; which classes can be made -/
def zCT : List (String × String) := [("java/lang/IllegalArgumentException", "java/lang/IllegalArgumentException"), ("java/lang/IllegalStateException", "java/lang/IllegalStateException"), ("java/lang/IndexOutOfBoundsException", "java/lang/IndexOutOfBoundsException"), ("ShadowWard$Block", "ShadowWard$Region"), ("ShadowWard$Region", "ShadowWard$Region"), ("ShadowWard$Variable", "ShadowWard$Region"), ("ShadowWard$Frame", "ShadowWard$Frame"), ("ShadowWard$Block", "ShadowWard$Block"), ("ShadowWard$Variable", "ShadowWard$Variable"), ("ShadowWard$Report", "ShadowWard$Report"), ("ShadowWard", "java/lang/Object"), ("ShadowWard$Memory", "java/lang/Object"), ("ShadowWard$Globals", "java/lang/Object"), ("ShadowWard$Frames", "java/lang/Object"), ("ShadowWard$Heap", "java/lang/Object"), ("ShadowWard$LostSearch", "java/lang/Object"), ("ShadowWardModel", "java/lang/Object"), ("ShadowWard$Region", "java/lang/Object"), ("ShadowWard$Frame", "java/lang/Object"), ("ShadowWard$Variable", "java/lang/Object"), ("ShadowWard$Block", "java/lang/Object"), ("ShadowWard$Report", "java/lang/Object"), ("java/lang/String", "java/lang/Object")]
def zisC : Jvm.Cond → Bool
  | .castable _ _ => true
  | _ => false
theorem zCT_eq : zCT.map (fun q => Jvm.Cond.castable q.1 q.2) = tables_1.filter zisC := by decide +kernel
theorem zCT_in {q : String × String} (h : q ∈ zCT) : Jvm.Cond.castable q.1 q.2 ∈ lw_tbl := z_in (zmf (by rw [← zCT_eq]; exact List.mem_map.mpr ⟨q, h, rfl⟩))
def zcast (ci : Nat) (nm : String) : Bool := decide (ci < 13) && decide (((zcl ci).1, nm) ∈ zCT)
theorem zct {X : zCx} (G : zG X) {s : State} (hW : (zs X).WarmedH s.vm) {a b : String} (h : (a, b) ∈ zCT) : ∃ c t, s.vm.findClass a = some c ∧ s.vm.findClass b = some t ∧ s.vm.assignable c t = true := by
  obtain ⟨c, t, h1, h2, h3⟩ := Cond.castable_spec (G.1 _ (zCT_in h))
  exact ⟨c, t, by rw [hW.alike.findClass]; exact h1, by rw [hW.alike.findClass]; exact h2, by rw [hW.alike.assignable]; exact h3⟩
theorem zcast_ok {X : zCx} (G : zG X) {s : State} {args : Array Value} (hW : (zs X).WarmedH s.vm) {ci : Nat} {nm : String} (h : zcast ci nm = true) : ClassAt s (zcl ci).1 ((zD X).1 ci) ∧ ∃ c t, s.vm.findClass (zcl ci).1 = some c ∧ s.vm.findClass nm = some t ∧ s.vm.assignable c t = true := by
  simp only [zcast, Bool.and_eq_true, decide_eq_true_eq] at h
  exact ⟨((zKs G hW).1 ci _ (zcl_ok ci h.1).1).2, zct G hW h.2⟩
theorem zcn : ∀ c, c < 13 → Jvm.Cond.instantiable (zcl c).1 (zcl c).2.2.1 ∈ lw_tbl ∧ Jvm.Cond.initialized (zcl c).1 ∈ lw_tbl := by
  intro c hc
  match c, hc with
  | 0, _ => exact ⟨z_in (List.mem_of_getElem? (i := 88) (by decide +kernel)), z_in (List.mem_of_getElem? (i := 7) (by decide +kernel))⟩
  | 1, _ => exact ⟨z_in (List.mem_of_getElem? (i := 869) (by decide +kernel)), z_in (List.mem_of_getElem? (i := 26) (by decide +kernel))⟩
  | 2, _ => exact ⟨z_in (List.mem_of_getElem? (i := 689) (by decide +kernel)), z_in (List.mem_of_getElem? (i := 22) (by decide +kernel))⟩
  | 3, _ => exact ⟨z_in (List.mem_of_getElem? (i := 123) (by decide +kernel)), z_in (List.mem_of_getElem? (i := 8) (by decide +kernel))⟩
  | 4, _ => exact ⟨z_in (List.mem_of_getElem? (i := 82) (by decide +kernel)), z_in (List.mem_of_getElem? (i := 4) (by decide +kernel))⟩
  | 5, _ => exact ⟨z_in (List.mem_of_getElem? (i := 140) (by decide +kernel)), z_in (List.mem_of_getElem? (i := 9) (by decide +kernel))⟩
  | 6, _ => exact ⟨z_in (List.mem_of_getElem? (i := 183) (by decide +kernel)), z_in (List.mem_of_getElem? (i := 10) (by decide +kernel))⟩
  | 7, _ => exact ⟨z_in (List.mem_of_getElem? (i := 38) (by decide +kernel)), z_in (List.mem_of_getElem? (i := 2) (by decide +kernel))⟩
  | 8, _ => exact ⟨z_in (List.mem_of_getElem? (i := 609) (by decide +kernel)), z_in (List.mem_of_getElem? (i := 18) (by decide +kernel))⟩
  | 9, _ => exact ⟨z_in (List.mem_of_getElem? (i := 322) (by decide +kernel)), z_in (List.mem_of_getElem? (i := 28) (by decide +kernel))⟩
  | 10, _ => exact ⟨z_in (List.mem_of_getElem? (i := 716) (by decide +kernel)), z_in (List.mem_of_getElem? (i := 23) (by decide +kernel))⟩
  | 11, _ => exact ⟨z_in (List.mem_of_getElem? (i := 30) (by decide +kernel)), z_in (List.mem_of_getElem? (i := 1) (by decide +kernel))⟩
  | 12, _ => exact ⟨z_in (List.mem_of_getElem? (i := 1063) (by decide +kernel)), z_in (List.mem_of_getElem? (i := 11) (by decide +kernel))⟩
  | c + 13, hc => omega
end
section
abbrev zI (X : zCx) (n : Nat) (g : Nat → Int32) : va_E := .inl (zA X 0, n, .inl g)
abbrev zJ (X : zCx) (n : Nat) (g : Nat → Int64) : va_E := .inl (zA X 1, n, .inr (.inl g))
abbrev zY (X : zCx) (n : Nat) (g : Nat → Int32) : va_E := .inl (zA X 2, n, .inl g)
abbrev zZ (X : zCx) (n : Nat) (g : Nat → Int32) : va_E := .inl (zA X 3, n, .inl g)
abbrev zOb (X : zCx) (n : Nat) (g : Nat → Option Nat) : va_E := .inl (zA X 4, n, .inr (.inr (.inr (.inr g))))
abbrev zBk (X : zCx) (n : Nat) (g : Nat → Option Nat) : va_E := .inl (zA X 5, n, .inr (.inr (.inr (.inr g))))
theorem zgl {C : String} {T : u_T} {N : Nat} {w : Jvm.Cond} (h : w ∈ u_ws C T N) : goodWord w = true := by
  unfold u_ws at h
  obtain ⟨k, -, rfl⟩ := List.mem_map.mp h
  unfold u_lay
  split <;> rfl
theorem z_ix {i : Int32} {j n : Nat} (hi : i.toInt = (j : Int)) (hj : j < n) : vp_in i n ∧ i.toNatClampNeg = j := by
  refine ⟨vp_in_iff.mpr ⟨by omega, by omega⟩, ?_⟩
  show i.toInt.toNat = j
  omega
theorem z_at {X : zCx} {h : zHp} {H : Heap} (hR : zR X h H) {a : Nat} {e : va_E} (hh : h.1 a = some e) : va_at (zD X) vwCl (a, e) H := (hR.2.2.2.1 a e hh).2
theorem z_bs {X : zCx} {h : zHp} {H : Heap} (hR : zR X h H) {a : Nat} {e : va_E} (hh : h.1 a = some e) : zB X ≤ a := (hR.2.2.2.1 a e hh).1
theorem z_lc {X : zCx} {locs : List Loc} {a i : Nat} (h : ∀ q ∈ locs, zB X ≤ q.base) (ha : zB X ≤ a) : ∀ q ∈ locs ++ [(⟨a, i⟩ : Loc)], zB X ≤ q.base := by
  intro q hq
  rcases List.mem_append.mp hq with h1 | h1
  · exact h q h1
  · rw [List.mem_singleton.mp h1]
    exact ha
section ZH
variable {X : zCx} {M : zMI} {f : zFr} {h : zHp} {pc : Nat} {L : zLo} {st : List Value} {Q : zRs → zHp → Prop}
theorem z_get {a ci : Nat} {fs : List Value} {k p0 idx nx t : Nat} {lv : Int32} {v : Value} {ref name desc : String} (hh : h.1 a = some (.inr (ci, fs))) (hf : zlk (zFt M) pc = some (p0, .getfield idx, nx, lv, t)) (hr : zFR[t]? = some ((zNm M).cls, idx, ref, name, desc)) (hk : zfk ci t = some k) (hv : fs[k]? = some v) (kk : Z X M f h nx L (v :: st) Q) : Z X M f h pc L (.ref a :: st) Q := by
  intro p ev s m args below meth c H locs ls E hR hn hk0 hlo hl
  obtain ⟨hG, hM, hx, hb, -, -, -, hown, hW, -⟩ := id E
  obtain ⟨d, rfl, -⟩ := zdn hM hf (n := 2) rfl
  obtain ⟨hcl, hkN, e1, e2, e3⟩ := zfk_ok hk hr
  dsimp only at e1 e2 e3
  have hlk : (Jvm.Cond.fieldLink (zNm M).cls idx ref name desc).before args s = true := zw hG hW (zFR_in hr) rfl
  refine va_get (D := zD X) (ci := ci) (v := v) (C := (zcl ci).1) (T := (zcl ci).2.1) (N := (zcl ci).2.2.1) (ref := ref) (Ts := u_ws (zcl ci).1 (zcl ci).2.1 (zcl ci).2.2.1) hx hb (fun w hw => zw hG hW (hcl.2.1 w hw) (zgl hw)) (fun w hw => hw) hown (zKs hG hW) (hR.at hh) 0 rfl hcl.1 k hkN (by rw [e1, e2]; exact hlk) (fun x ho => ?_) hv d (kk p ev s m args below meth c H locs ls E hR hn hk0 hlo hl)
  rw [e1, e2] at ho ⊢
  rcases e3 with e3 | e3
  · rw [← e3]; exact ho
  · exact u_same (args := args) (zw hG hW (zSF_in e3) rfl) x ho
theorem z_put {a ci : Nat} {fs : List Value} {k p0 idx nx t : Nat} {lv : Int32} {v : Value} {ref name desc : String} (hh : h.1 a = some (.inr (ci, fs))) (hf : zlk (zFt M) pc = some (p0, .putfield idx, nx, lv, t)) (hr : zFR[t]? = some ((zNm M).cls, idx, ref, name, desc)) (hk : zfk ci t = some k) (hfin : ((zcl ci).2.1 k).2.2.2 = false) (hnv : narrow ((zcl ci).2.2.2 k) v = v) (hfv : fits ((zcl ci).2.2.2 k) v = true) (hlen : k < fs.length)
    (kk : Z X M f (zset h a (.inr (ci, fs.set k v))) nx L st Q) : Z X M f h pc L (v :: .ref a :: st) Q := by
  intro p ev s m args below meth c H locs ls E hR hn hk0 hlo hl
  obtain ⟨hG, hM, hx, hb, -, -, -, hown, hW, -⟩ := id E
  obtain ⟨d, rfl, -⟩ := zdn hM hf (n := 2) rfl
  obtain ⟨hcl, hkN, e1, e2, e3⟩ := zfk_ok hk hr
  dsimp only at e1 e2 e3
  have hlk : (Jvm.Cond.fieldLink (zNm M).cls idx ref name desc).before args s = true := zw hG hW (zFR_in hr) rfl
  have hts : ∀ w ∈ u_ws (zcl ci).1 (zcl ci).2.1 (zcl ci).2.2.1, w.before args s = true := fun w hw => zw hG hW (hcl.2.1 w hw) (zgl hw)
  have hK := zKs hG hW
  have hap := va_apart (own := (zNm M).cls) (D := zD X) (args := args) hts (fun w hw => hw) (zcl ci).2.2.2 hcl.2.2.1 hcl.2.2.2 hK hcl.1
  obtain ⟨r, h1, cell, q1, q2, q3, q4⟩ := z_at hR hh
  have hr9 : r = ((zcl ci).1, (zcl ci).2.1, (zcl ci).2.2.1) := Option.some.inj (h1.symm.trans hcl.1)
  subst hr9
  obtain ⟨hS, hfc, kC, hkC, hkind⟩ := hK.1 ci _ hcl.1
  obtain ⟨cf, kf, fi, fd, hi, hsl⟩ := hS k hkN
  have hlay := hts _ (u_in_lay hkN)
  unfold u_lay at hlay
  rw [if_neg (by rw [hfin]; decide)] at hlay
  have hst := (u_facts hfc hkC (u_lays hts (fun w hw => hw) hkN) hi).1
  have h6 := u_store hfc hkC hkind hlay hi (hcl.2.2.1 k hkN) hnv hfv
  have hsame : s.fieldFound? ref name desc = some (cf, kf, fi, fd) := by
    have ho := hi
    dsimp only at ho
    rw [e1, e2] at ho
    rcases e3 with e3 | e3
    · rw [← e3]; exact ho
    · exact u_same (args := args) (zw hG hW (zSF_in e3) rfl) _ ho
  refine W.putK hx hb (f := fd) ⟨hown, hlk, ⟨_, _, _, hsame⟩, hst⟩ (by rw [q2]; exact h6) q1 q3 (by rw [hsl]; exact k2_hasslot (q4 k hkN)) rfl rfl d fun H' g1 g2 g3 => ?_
  rw [hsl] at g1 ⊢
  exact kk p ev s m args below meth c H' _ ls E (hR.put (z_bs hR hh) ⟨_, hcl.1, t_OB.to (V := updV (vp_V fs) k v) ⟨_, g1, q2, q3, t_set q4 hap hkN v⟩ (fun j _ => vp_updV_set hlen v j)⟩ g2 g3) hn hk0 (z_lc hlo (z_bs hR hh)) hl
theorem z_putF {a ci : Nat} {fs : List Value} {k p0 idx nx t : Nat} {lv : Int32} {v : Value} {ref name desc : String} (hh : h.1 a = some (.inr (ci, fs))) (hf : zlk (zFt M) pc = some (p0, .putfield idx, nx, lv, t)) (hr : zFR[t]? = some ((zNm M).cls, idx, ref, name, desc)) (hk : zfk ci t = some k) (hfin : ((zcl ci).2.1 k).2.2.2 = true) (hini : (zNm M).name = "<init>") (hdecl : ((zcl ci).2.1 k).1 = (zNm M).cls) (hnv : narrow ((zcl ci).2.2.2 k) v = v) (hfv : fits ((zcl ci).2.2.2 k) v = true) (hlen : k < fs.length)
    (kk : Z X M f (zset h a (.inr (ci, fs.set k v))) nx L st Q) : Z X M f h pc L (v :: .ref a :: st) Q := by
  intro p ev s m args below meth c H locs ls E hR hn hk0 hlo hl
  obtain ⟨hG, hM, hx, hb, -, -, -, hown, hW, -, hmn, -⟩ := id E
  obtain ⟨d, rfl, -⟩ := zdn hM hf (n := 2) rfl
  obtain ⟨hcl, hkN, e1, e2, e3⟩ := zfk_ok hk hr
  dsimp only at e1 e2 e3
  have hlk : (Jvm.Cond.fieldLink (zNm M).cls idx ref name desc).before args s = true := zw hG hW (zFR_in hr) rfl
  have hts : ∀ w ∈ u_ws (zcl ci).1 (zcl ci).2.1 (zcl ci).2.2.1, w.before args s = true := fun w hw => zw hG hW (hcl.2.1 w hw) (zgl hw)
  have hK := zKs hG hW
  have hap := va_apart (own := (zNm M).cls) (D := zD X) (args := args) hts (fun w hw => hw) (zcl ci).2.2.2 hcl.2.2.1 hcl.2.2.2 hK hcl.1
  obtain ⟨r, h1, cell, q1, q2, q3, q4⟩ := z_at hR hh
  have hr9 : r = ((zcl ci).1, (zcl ci).2.1, (zcl ci).2.2.1) := Option.some.inj (h1.symm.trans hcl.1)
  subst hr9
  obtain ⟨hS, hfc, kC, hkC, hkind⟩ := hK.1 ci _ hcl.1
  obtain ⟨cf, kf, fi, fd, hi, hsl⟩ := hS k hkN
  have hlay := hts _ (u_in_lay hkN)
  unfold u_lay at hlay
  rw [if_pos hfin] at hlay
  have hst := (u_facts hfc hkC (u_lays hts (fun w hw => hw) hkN) hi).1
  have hcf : m.cls = cf := by
    obtain ⟨_, _, c', _, _, _, -, -, hf', -, -, -, hown2, -⟩ := Cond.laysFinal_spec hlay
    have e9 : c' = cf := by have := hi.symm.trans hf'; simp at this; exact this.1.symm
    rw [hdecl] at hown2
    rw [← e9]; exact Option.some.inj (hown.symm.trans hown2)
  have h6 := u_fits hfc hkC hkind (Or.inr hlay) hi (hcl.2.2.1 k hkN) hnv hfv
  have hsame : s.fieldFound? ref name desc = some (cf, kf, fi, fd) := by
    have ho := hi
    dsimp only at ho
    rw [e1, e2] at ho
    rcases e3 with e3 | e3
    · rw [← e3]; exact ho
    · exact u_same (args := args) (zw hG hW (zSF_in e3) rfl) _ ho
  refine W.putFinK hx hb hown hlk hsame hst hcf (hmn.trans hini) (by rw [q2]; exact h6) q1 q3 (by rw [hsl]; exact k2_hasslot (q4 k hkN)) rfl rfl d fun H' g1 g2 g3 => ?_
  rw [hsl] at g1 ⊢
  exact kk p ev s m args below meth c H' _ ls E (hR.put (z_bs hR hh) ⟨_, hcl.1, t_OB.to (V := updV (vp_V fs) k v) ⟨_, g1, q2, q3, t_set q4 hap hkN v⟩ (fun j _ => vp_updV_set hlen v j)⟩ g2 g3) hn hk0 (z_lc hlo (z_bs hR hh)) hl
-- ARRAYS
theorem z_iald {a n : Nat} {g : Nat → Int32} {i : Int32} {p0 nx t : Nat} {lv : Int32} (j : Nat) (hh : h.1 a = some (zI X n g)) (hf : zlk (zFt M) pc = some (p0, .iaload, nx, lv, t)) (hi : i.toInt = (j : Int)) (hj : j < n) (kk : Z X M f h nx L (.int (g j) :: st) Q) : Z X M f h pc L (.int i :: .ref a :: st) Q := by
  intro p ev s m args below meth c H locs ls E hR hn hk0 hlo hl
  obtain ⟨hG, hM, hx, hb, -, -, -, hown, hW, -⟩ := id E
  obtain ⟨d, rfl, -⟩ := zdn hM hf (n := 0) rfl
  obtain ⟨hin, hcl⟩ := z_ix hi hj
  refine va_iald (D := zD X) (cl := vwCl) (ws := [(a, zI X n g)]) hx hb (zKs hG hW) (hR.at hh) 0 0 rfl (zTys_at X (k := 0) (by decide)) hin d ?_
  rw [hcl]
  exact kk p ev s m args below meth c H locs ls E hR hn hk0 hlo hl
theorem z_lald {a n : Nat} {g : Nat → Int64} {i : Int32} {p0 nx t : Nat} {lv : Int32} (j : Nat) (hh : h.1 a = some (zJ X n g)) (hf : zlk (zFt M) pc = some (p0, .laload, nx, lv, t)) (hi : i.toInt = (j : Int)) (hj : j < n) (kk : Z X M f h nx L (.long (g j) :: st) Q) : Z X M f h pc L (.int i :: .ref a :: st) Q := by
  intro p ev s m args below meth c H locs ls E hR hn hk0 hlo hl
  obtain ⟨hG, hM, hx, hb, -, -, -, hown, hW, -⟩ := id E
  obtain ⟨d, rfl, -⟩ := zdn hM hf (n := 0) rfl
  obtain ⟨hin, hcl⟩ := z_ix hi hj
  refine va_lald (D := zD X) (cl := vwCl) (ws := [(a, zJ X n g)]) hx hb (zKs hG hW) (hR.at hh) 0 1 rfl (zTys_at X (k := 1) (by decide)) hin d ?_
  rw [hcl]
  exact kk p ev s m args below meth c H locs ls E hR hn hk0 hlo hl
theorem z_bald {a n : Nat} {g : Nat → Int32} {i : Int32} {p0 nx t : Nat} {lv : Int32} (j : Nat) (hh : h.1 a = some (zY X n g)) (hf : zlk (zFt M) pc = some (p0, .baload, nx, lv, t)) (hi : i.toInt = (j : Int)) (hj : j < n) (kk : Z X M f h nx L (.int (g j) :: st) Q) : Z X M f h pc L (.int i :: .ref a :: st) Q := by
  intro p ev s m args below meth c H locs ls E hR hn hk0 hlo hl
  obtain ⟨hG, hM, hx, hb, -, -, -, hown, hW, -⟩ := id E
  obtain ⟨d, rfl, -⟩ := zdn hM hf (n := 0) rfl
  obtain ⟨hin, hcl⟩ := z_ix hi hj
  refine va_bald (D := zD X) (cl := vwCl) (ws := [(a, zY X n g)]) hx hb (zKs hG hW) (hR.at hh) 0 2 rfl (zTys_at X (k := 2) (by decide)) hin d ?_
  rw [hcl]
  exact kk p ev s m args below meth c H locs ls E hR hn hk0 hlo hl
theorem z_zald {a n : Nat} {g : Nat → Int32} {i : Int32} {p0 nx t : Nat} {lv : Int32} (j : Nat) (hh : h.1 a = some (zZ X n g)) (hf : zlk (zFt M) pc = some (p0, .baload, nx, lv, t)) (hi : i.toInt = (j : Int)) (hj : j < n) (kk : Z X M f h nx L (.int (g j) :: st) Q) : Z X M f h pc L (.int i :: .ref a :: st) Q := by
  intro p ev s m args below meth c H locs ls E hR hn hk0 hlo hl
  obtain ⟨hG, hM, hx, hb, -, -, -, hown, hW, -⟩ := id E
  obtain ⟨d, rfl, -⟩ := zdn hM hf (n := 0) rfl
  obtain ⟨hin, hcl⟩ := z_ix hi hj
  refine va_zald (D := zD X) (cl := vwCl) (ws := [(a, zZ X n g)]) hx hb (zKs hG hW) (hR.at hh) 0 3 rfl (zTys_at X (k := 3) (by decide)) hin d ?_
  rw [hcl]
  exact kk p ev s m args below meth c H locs ls E hR hn hk0 hlo hl
theorem z_oald {a n : Nat} {g : Nat → Option Nat} {i : Int32} {p0 nx t : Nat} {lv : Int32} (j : Nat) (hh : h.1 a = some (zOb X n g)) (hf : zlk (zFt M) pc = some (p0, .aaload, nx, lv, t)) (hi : i.toInt = (j : Int)) (hj : j < n) (kk : Z X M f h nx L (va_rf (g j) :: st) Q) : Z X M f h pc L (.int i :: .ref a :: st) Q := by
  intro p ev s m args below meth c H locs ls E hR hn hk0 hlo hl
  obtain ⟨hG, hM, hx, hb, -, -, -, hown, hW, -⟩ := id E
  obtain ⟨d, rfl, -⟩ := zdn hM hf (n := 0) rfl
  obtain ⟨hin, hcl⟩ := z_ix hi hj
  refine va_aldq (D := zD X) (cl := vwCl) (ws := [(a, zOb X n g)]) hx hb (zKs hG hW) (hR.at hh) 0 4 rfl (zTys_at X (k := 4) (by decide)) hin d ?_
  rw [hcl]
  exact kk p ev s m args below meth c H locs ls E hR hn hk0 hlo hl
theorem z_kald {a n : Nat} {g : Nat → Option Nat} {i : Int32} {p0 nx t : Nat} {lv : Int32} (j : Nat) (hh : h.1 a = some (zBk X n g)) (hf : zlk (zFt M) pc = some (p0, .aaload, nx, lv, t)) (hi : i.toInt = (j : Int)) (hj : j < n) (kk : Z X M f h nx L (va_rf (g j) :: st) Q) : Z X M f h pc L (.int i :: .ref a :: st) Q := by
  intro p ev s m args below meth c H locs ls E hR hn hk0 hlo hl
  obtain ⟨hG, hM, hx, hb, -, -, -, hown, hW, -⟩ := id E
  obtain ⟨d, rfl, -⟩ := zdn hM hf (n := 0) rfl
  obtain ⟨hin, hcl⟩ := z_ix hi hj
  refine va_aldq (D := zD X) (cl := vwCl) (ws := [(a, zBk X n g)]) hx hb (zKs hG hW) (hR.at hh) 0 5 rfl (zTys_at X (k := 5) (by decide)) hin d ?_
  rw [hcl]
  exact kk p ev s m args below meth c H locs ls E hR hn hk0 hlo hl
theorem z_iast {a n : Nat} {g : Nat → Int32} {i : Int32} {x : Int32} {p0 nx t : Nat} {lv : Int32} (j : Nat) (hh : h.1 a = some (zI X n g)) (hf : zlk (zFt M) pc = some (p0, .iastore, nx, lv, t)) (hi : i.toInt = (j : Int)) (hj : j < n) (kk : Z X M f (zset h a (zI X n (upd g j x))) nx L st Q) : Z X M f h pc L (.int x :: .int i :: .ref a :: st) Q := by
  intro p ev s m args below meth c H locs ls E hR hn hk0 hlo hl
  obtain ⟨hG, hM, hx, hb, -, -, -, hown, hW, -⟩ := id E
  obtain ⟨d, rfl, -⟩ := zdn hM hf (n := 0) rfl
  obtain ⟨hin, hcl⟩ := z_ix hi hj
  have hcell : H[a]? = some (vp_cell (zA X 0) _) := z_at hR hh
  refine W.iast hx hb hcell (((zKs hG hW).2 0 _ (zTys_at X (k := 0) (by decide))).1 n _) (fun q => by cases q) (by show ¬ (i < 0 ∨ (arrV _ _ _).slots.size ≤ _); rw [arrV_size]; exact hin) rfl rfl d fun H1 e1 z1 oq => ?_
  rw [hcl] at e1 ⊢
  refine kk p ev s m args below meth c H1 _ ls E (hR.put (z_bs hR hh) (show H1[a]? = some (vp_cell _ _) from ?_) z1 oq) hn hk0 (z_lc hlo (z_bs hR hh)) hl
  rw [e1, vp_cell_i, vp_cell_i, arrV_store]
  congr 2
  funext q
  by_cases hq : q = j
  · subst hq
    simp [updV, upd]
  · simp [updV, upd, hq]
theorem z_last {a n : Nat} {g : Nat → Int64} {i : Int32} {x : Int64} {p0 nx t : Nat} {lv : Int32} (j : Nat) (hh : h.1 a = some (zJ X n g)) (hf : zlk (zFt M) pc = some (p0, .lastore, nx, lv, t)) (hi : i.toInt = (j : Int)) (hj : j < n) (kk : Z X M f (zset h a (zJ X n (vp_updL g j x))) nx L st Q) : Z X M f h pc L (.long x :: .int i :: .ref a :: st) Q := by
  intro p ev s m args below meth c H locs ls E hR hn hk0 hlo hl
  obtain ⟨hG, hM, hx, hb, -, -, -, hown, hW, -⟩ := id E
  obtain ⟨d, rfl, -⟩ := zdn hM hf (n := 0) rfl
  obtain ⟨hin, hcl⟩ := z_ix hi hj
  have hcell : H[a]? = some (vp_cell (zA X 1) _) := z_at hR hh
  refine W.last hx hb hcell (((zKs hG hW).2 1 _ (zTys_at X (k := 1) (by decide))).1 n _) (fun q => by cases q) (by show ¬ (i < 0 ∨ (arrV _ _ _).slots.size ≤ _); rw [arrV_size]; exact hin) rfl rfl d fun H1 e1 z1 oq => ?_
  rw [hcl] at e1 ⊢
  refine kk p ev s m args below meth c H1 _ ls E (hR.put (z_bs hR hh) (show H1[a]? = some (vp_cell _ _) from ?_) z1 oq) hn hk0 (z_lc hlo (z_bs hR hh)) hl
  rw [e1, vp_cell_l, vp_cell_l, arrV_store]
  congr 2
  funext q
  by_cases hq : q = j
  · subst hq
    simp [updV, vp_updL]
  · simp [updV, vp_updL, hq]
theorem z_bast {a n : Nat} {g : Nat → Int32} {i : Int32} {x : Int32} {p0 nx t : Nat} {lv : Int32} (j : Nat) (hh : h.1 a = some (zY X n g)) (hf : zlk (zFt M) pc = some (p0, .bastore, nx, lv, t)) (hi : i.toInt = (j : Int)) (hj : j < n) (kk : Z X M f (zset h a (zY X n (upd g j x.toInt8.toInt32))) nx L st Q) : Z X M f h pc L (.int x :: .int i :: .ref a :: st) Q := by
  intro p ev s m args below meth c H locs ls E hR hn hk0 hlo hl
  obtain ⟨hG, hM, hx, hb, -, -, -, hown, hW, -⟩ := id E
  obtain ⟨d, rfl, -⟩ := zdn hM hf (n := 0) rfl
  obtain ⟨hin, hcl⟩ := z_ix hi hj
  have hcell : H[a]? = some (vp_cell (zA X 2) _) := z_at hR hh
  refine W.bast hx hb hcell (((zKs hG hW).2 2 _ (zTys_at X (k := 2) (by decide))).1 n _) (fun q => by cases q) (by show ¬ (i < 0 ∨ (arrV _ _ _).slots.size ≤ _); rw [arrV_size]; exact hin) rfl rfl d fun H1 e1 z1 oq => ?_
  rw [hcl] at e1 ⊢
  refine kk p ev s m args below meth c H1 _ ls E (hR.put (z_bs hR hh) (show H1[a]? = some (vp_cell _ _) from ?_) z1 oq) hn hk0 (z_lc hlo (z_bs hR hh)) hl
  rw [e1, vp_cell_i, vp_cell_i, arrV_store]
  congr 2
  funext q
  by_cases hq : q = j
  · subst hq
    simp [updV, upd]
    try rfl
  · simp [updV, upd, hq]
theorem z_zast {a n : Nat} {g : Nat → Int32} {i : Int32} {x : Int32} {p0 nx t : Nat} {lv : Int32} (j : Nat) (hh : h.1 a = some (zZ X n g)) (hf : zlk (zFt M) pc = some (p0, .bastore, nx, lv, t)) (hi : i.toInt = (j : Int)) (hj : j < n) (kk : Z X M f (zset h a (zZ X n (upd g j (vp_nar .boolean x)))) nx L st Q) : Z X M f h pc L (.int x :: .int i :: .ref a :: st) Q := by
  intro p ev s m args below meth c H locs ls E hR hn hk0 hlo hl
  obtain ⟨hG, hM, hx, hb, -, -, -, hown, hW, -⟩ := id E
  obtain ⟨d, rfl, -⟩ := zdn hM hf (n := 0) rfl
  obtain ⟨hin, hcl⟩ := z_ix hi hj
  have hcell : H[a]? = some (vp_cell (zA X 3) _) := z_at hR hh
  refine W.zast hx hb hcell (((zKs hG hW).2 3 _ (zTys_at X (k := 3) (by decide))).1 n _) (fun q => by cases q) (by show ¬ (i < 0 ∨ (arrV _ _ _).slots.size ≤ _); rw [arrV_size]; exact hin) rfl rfl d fun H1 e1 z1 oq => ?_
  rw [hcl] at e1 ⊢
  refine kk p ev s m args below meth c H1 _ ls E (hR.put (z_bs hR hh) (show H1[a]? = some (vp_cell _ _) from ?_) z1 oq) hn hk0 (z_lc hlo (z_bs hR hh)) hl
  rw [e1, vp_cell_i, vp_cell_i, arrV_store]
  congr 2
  funext q
  by_cases hq : q = j
  · subst hq
    simp [updV, upd, vp_nar]
    try rfl
  · simp [updV, upd, vp_nar, hq]
theorem z_oastN {a n : Nat} {g : Nat → Option Nat} {i : Int32} {p0 nx t : Nat} {lv : Int32} (j : Nat) (hh : h.1 a = some (zOb X n g)) (hf : zlk (zFt M) pc = some (p0, .aastore, nx, lv, t)) (hi : i.toInt = (j : Int)) (hj : j < n) (kk : Z X M f (zset h a (zOb X n (va_up g j none))) nx L st Q) : Z X M f h pc L (.null :: .int i :: .ref a :: st) Q := by
  intro p ev s m args below meth c H locs ls E hR hn hk0 hlo hl
  obtain ⟨hG, hM, hx, hb, -, -, -, hown, hW, -⟩ := id E
  obtain ⟨d, rfl, -⟩ := zdn hM hf (n := 0) rfl
  obtain ⟨hin, hcl⟩ := z_ix hi hj
  have hcell : H[a]? = some (vp_cell (zA X 4) _) := z_at hR hh
  refine va_WaastN (C := "java/lang/Object") hx hb hcell (((zKs hG hW).2 4 _ (zTys_at X (k := 4) (by decide))).1 n _) (fun h => by cases h) (by show ¬ (i < 0 ∨ (arrV _ _ _).slots.size ≤ _); rw [arrV_size]; exact hin) rfl rfl d fun H1 e1 z1 oq => ?_
  rw [hcl] at e1 ⊢
  refine kk p ev s m args below meth c H1 _ ls E (hR.put (z_bs hR hh) (show H1[a]? = some (vp_cell _ _) from ?_) z1 oq) hn hk0 (z_lc hlo (z_bs hR hh)) hl
  rw [e1, vp_cell_q, vp_cell_q, arrV_store]
  congr 2
  funext q
  by_cases hq : q = j
  · subst hq
    simp [updV, va_up, va_rf]
  · simp [updV, va_up, hq]
theorem z_kastN {a n : Nat} {g : Nat → Option Nat} {i : Int32} {p0 nx t : Nat} {lv : Int32} (j : Nat) (hh : h.1 a = some (zBk X n g)) (hf : zlk (zFt M) pc = some (p0, .aastore, nx, lv, t)) (hi : i.toInt = (j : Int)) (hj : j < n) (kk : Z X M f (zset h a (zBk X n (va_up g j none))) nx L st Q) : Z X M f h pc L (.null :: .int i :: .ref a :: st) Q := by
  intro p ev s m args below meth c H locs ls E hR hn hk0 hlo hl
  obtain ⟨hG, hM, hx, hb, -, -, -, hown, hW, -⟩ := id E
  obtain ⟨d, rfl, -⟩ := zdn hM hf (n := 0) rfl
  obtain ⟨hin, hcl⟩ := z_ix hi hj
  have hcell : H[a]? = some (vp_cell (zA X 5) _) := z_at hR hh
  refine va_WaastN (C := "ShadowWard$Block") hx hb hcell (((zKs hG hW).2 5 _ (zTys_at X (k := 5) (by decide))).1 n _) (fun h => by cases h) (by show ¬ (i < 0 ∨ (arrV _ _ _).slots.size ≤ _); rw [arrV_size]; exact hin) rfl rfl d fun H1 e1 z1 oq => ?_
  rw [hcl] at e1 ⊢
  refine kk p ev s m args below meth c H1 _ ls E (hR.put (z_bs hR hh) (show H1[a]? = some (vp_cell _ _) from ?_) z1 oq) hn hk0 (z_lc hlo (z_bs hR hh)) hl
  rw [e1, vp_cell_q, vp_cell_q, arrV_store]
  congr 2
  funext q
  by_cases hq : q = j
  · subst hq
    simp [updV, va_up, va_rf]
  · simp [updV, va_up, hq]
theorem z_oast {a n b ci : Nat} {fs : List Value} {g : Nat → Option Nat} {i : Int32} {p0 nx t : Nat} {lv : Int32} (j : Nat) (hh : h.1 a = some (zOb X n g)) (hob : h.1 b = some (.inr (ci, fs))) (hcs : zcast ci "java/lang/Object" = true) (hf : zlk (zFt M) pc = some (p0, .aastore, nx, lv, t)) (hi : i.toInt = (j : Int)) (hj : j < n) (kk : Z X M f (zset h a (zOb X n (va_up g j (some b)))) nx L st Q) : Z X M f h pc L (.ref b :: .int i :: .ref a :: st) Q := by
  intro p ev s m args below meth c H locs ls E hR hn hk0 hlo hl
  obtain ⟨hG, hM, hx, hb, -, -, -, hown, hW, -⟩ := id E
  obtain ⟨d, rfl, -⟩ := zdn hM hf (n := 0) rfl
  obtain ⟨hin, hcl⟩ := z_ix hi hj
  have hcell : H[a]? = some (vp_cell (zA X 4) _) := z_at hR hh
  obtain ⟨r', hr', cellV, g1, g2, g3, -⟩ := z_at hR hob
  have hK := zKs hG hW
  obtain ⟨kA, comp, k1, k2, k3, -⟩ := (hK.2 4 _ (zTys_at X (k := 4) (by decide))).2
  have h0 : ¬ i < 0 := fun q => hin (Or.inl q)
  have hlt : i.toNatClampNeg < n := by rw [hcl]; exact hj
  obtain ⟨hcls, c3, c4, w1, w2, w3⟩ := zcast_ok (args := args) hG hW hcs
  have hc3 : c3 = (zD X).1 ci := Option.some.inj (w1.symm.trans hcls.1)
  have hc4 : c4 = comp := Option.some.inj (w2.symm.trans k3)
  subst hc3 hc4
  obtain ⟨kC, hkC, -⟩ := hcls.2
  obtain ⟨kP, hkP⟩ := Vm.classAt_of_findClass k3
  refine W.aast hx hb hcell (fun q h => by cases h) (fun h => by cases h) k1 k2 rfl hkP ⟨h0, by show _ < (arrV _ _ _).slots.size; rw [arrV_size]; exact hlt⟩ g1 (fun q h => by rw [g3] at h; cases h) (by rw [g2]; exact hkC) (by rw [g2]; exact w3) rfl rfl d fun H1 e1 z1 oq => ?_
  rw [hcl] at e1 ⊢
  refine kk p ev s m args below meth c H1 _ ls E (hR.put (z_bs hR hh) (show H1[a]? = some (vp_cell _ _) from ?_) z1 oq) hn hk0 (z_lc hlo (z_bs hR hh)) hl
  rw [e1, vp_cell_q, vp_cell_q, arrV_store]
  congr 2
  funext q
  by_cases hq : q = j
  · subst hq
    simp [updV, va_up, va_rf]
  · simp [updV, va_up, hq]
theorem z_kast {a n b ci : Nat} {fs : List Value} {g : Nat → Option Nat} {i : Int32} {p0 nx t : Nat} {lv : Int32} (j : Nat) (hh : h.1 a = some (zBk X n g)) (hob : h.1 b = some (.inr (ci, fs))) (hcs : zcast ci "ShadowWard$Block" = true) (hf : zlk (zFt M) pc = some (p0, .aastore, nx, lv, t)) (hi : i.toInt = (j : Int)) (hj : j < n) (kk : Z X M f (zset h a (zBk X n (va_up g j (some b)))) nx L st Q) : Z X M f h pc L (.ref b :: .int i :: .ref a :: st) Q := by
  intro p ev s m args below meth c H locs ls E hR hn hk0 hlo hl
  obtain ⟨hG, hM, hx, hb, -, -, -, hown, hW, -⟩ := id E
  obtain ⟨d, rfl, -⟩ := zdn hM hf (n := 0) rfl
  obtain ⟨hin, hcl⟩ := z_ix hi hj
  have hcell : H[a]? = some (vp_cell (zA X 5) _) := z_at hR hh
  obtain ⟨r', hr', cellV, g1, g2, g3, -⟩ := z_at hR hob
  have hK := zKs hG hW
  obtain ⟨kA, comp, k1, k2, k3, -⟩ := (hK.2 5 _ (zTys_at X (k := 5) (by decide))).2
  have h0 : ¬ i < 0 := fun q => hin (Or.inl q)
  have hlt : i.toNatClampNeg < n := by rw [hcl]; exact hj
  obtain ⟨hcls, c3, c4, w1, w2, w3⟩ := zcast_ok (args := args) hG hW hcs
  have hc3 : c3 = (zD X).1 ci := Option.some.inj (w1.symm.trans hcls.1)
  have hc4 : c4 = comp := Option.some.inj (w2.symm.trans k3)
  subst hc3 hc4
  obtain ⟨kC, hkC, -⟩ := hcls.2
  obtain ⟨kP, hkP⟩ := Vm.classAt_of_findClass k3
  refine W.aast hx hb hcell (fun q h => by cases h) (fun h => by cases h) k1 k2 rfl hkP ⟨h0, by show _ < (arrV _ _ _).slots.size; rw [arrV_size]; exact hlt⟩ g1 (fun q h => by rw [g3] at h; cases h) (by rw [g2]; exact hkC) (by rw [g2]; exact w3) rfl rfl d fun H1 e1 z1 oq => ?_
  rw [hcl] at e1 ⊢
  refine kk p ev s m args below meth c H1 _ ls E (hR.put (z_bs hR hh) (show H1[a]? = some (vp_cell _ _) from ?_) z1 oq) hn hk0 (z_lc hlo (z_bs hR hh)) hl
  rw [e1, vp_cell_q, vp_cell_q, arrV_store]
  congr 2
  funext q
  by_cases hq : q = j
  · subst hq
    simp [updV, va_up, va_rf]
  · simp [updV, va_up, hq]
theorem z_alen {a : Nat} {x : vp_A} {k : Nat} {p0 nx t : Nat} {lv : Int32} (hk6 : k < 6) (hh : h.1 a = some (.inl (zA X k, x))) (hf : zlk (zFt M) pc = some (p0, .arraylength, nx, lv, t)) (kk : Z X M f h nx L (.int (nI x.1) :: st) Q) : Z X M f h pc L (.ref a :: st) Q := by
  intro p ev s m args below meth c H locs ls E hR hn hk0 hlo hl
  obtain ⟨hG, hM, hx, hb, -, -, -, hown, hW, -⟩ := id E
  obtain ⟨d, rfl, -⟩ := zdn hM hf (n := 0) rfl
  exact va_alen (D := zD X) (cl := vwCl) (ws := [(a, .inl (zA X k, x))]) hx hb (zKs hG hW) (hR.at hh) 0 k rfl (zTys_at X hk6) rfl d (kk p ev s m args below meth c H locs ls E hR hn hk0 hlo hl)
theorem z_cast {a ci : Nat} {fs : List Value} {p0 idx nx t : Nat} {lv : Int32} {nm : String} (hh : h.1 a = some (.inr (ci, fs))) (hf : zlk (zFt M) pc = some (p0, .checkcast idx, nx, lv, t)) (hr : zKL[t]? = some ((zNm M).cls, idx, nm)) (hcs : zcast ci nm = true) (kk : Z X M f h nx L (.ref a :: st) Q) : Z X M f h pc L (.ref a :: st) Q := by
  intro p ev s m args below meth c H locs ls E hR hn hk0 hlo hl
  obtain ⟨hG, hM, hx, hb, -, -, -, hown, hW, -⟩ := id E
  obtain ⟨d, rfl, -⟩ := zdn hM hf (n := 2) rfl
  obtain ⟨r', hr', cellV, g1, g2, g3, -⟩ := z_at hR hh
  obtain ⟨hcls, c3, c4, w1, w2, w3⟩ := zcast_ok (args := args) hG hW hcs
  intro T hT X9
  obtain ⟨vm', X', st9⟩ := X9.checkcastYes hx hown (zw hG hW (zKL_in hr) rfl) (by rw [hT]; exact g1) (by rw [g3]; rfl) w2 (by rw [g2]; have e9 : c3 = (zD X).1 ci := Option.some.inj (w1.symm.trans hcls.1); rw [← e9]; exact w3) (g := F0 m pc ls (.ref a :: st)) rfl rfl (by rw [hb]; exact d)
  obtain ⟨t9, a1, b1⟩ := kk p ev s m args below meth c H locs ls E hR hn hk0 hlo hl (T.setVm vm') hT X'
  exact ⟨t9, st9 t9 a1, b1⟩
theorem z_castN {p0 idx nx t : Nat} {lv : Int32} (hf : zlk (zFt M) pc = some (p0, .checkcast idx, nx, lv, t)) (kk : Z X M f h nx L (.null :: st) Q) : Z X M f h pc L (.null :: st) Q := by
  intro p ev s m args below meth c H locs ls E hR hn hk0 hlo hl
  obtain ⟨hG, hM, hx, hb, -, -, -, hown, hW, -⟩ := id E
  obtain ⟨d, rfl, -⟩ := zdn hM hf (n := 2) rfl
  exact lv_castN hx hb d (kk p ev s m args below meth c H locs ls E hR hn hk0 hlo hl)
theorem z_div {x y : Int32} {p0 nx t : Nat} {lv : Int32} (hf : zlk (zFt M) pc = some (p0, .idiv, nx, lv, t)) (hne : ¬ y = 0) (kk : Z X M f h nx L (.int (x / y) :: st) Q) : Z X M f h pc L (.int y :: .int x :: st) Q := by
  intro p ev s m args below meth c H locs ls E hR hn hk0 hlo hl
  obtain ⟨hG, hM, hx, hb, -, -, -, hown, hW, -⟩ := id E
  obtain ⟨d, rfl, -⟩ := zdn hM hf (n := 0) rfl
  exact lv_idiv hx hb d hne (kk p ev s m args below meth c H locs ls E hR hn hk0 hlo hl)
theorem z_rem {x y : Int32} {p0 nx t : Nat} {lv : Int32} (hf : zlk (zFt M) pc = some (p0, .irem, nx, lv, t)) (hne : ¬ y = 0) (kk : Z X M f h nx L (.int (x - x / y * y) :: st) Q) : Z X M f h pc L (.int y :: .int x :: st) Q := by
  intro p ev s m args below meth c H locs ls E hR hn hk0 hlo hl
  obtain ⟨hG, hM, hx, hb, -, -, -, hown, hW, -⟩ := id E
  obtain ⟨d, rfl, -⟩ := zdn hM hf (n := 0) rfl
  exact lv_irem hx hb d hne (kk p ev s m args below meth c H locs ls E hR hn hk0 hlo hl)
theorem z_lrem {x y : Int64} {p0 nx t : Nat} {lv : Int32} (hf : zlk (zFt M) pc = some (p0, .lrem, nx, lv, t)) (hne : ¬ y = 0) (kk : Z X M f h nx L (.long (x - x / y * y) :: st) Q) : Z X M f h pc L (.long y :: .long x :: st) Q := by
  intro p ev s m args below meth c H locs ls E hR hn hk0 hlo hl
  obtain ⟨hG, hM, hx, hb, -, -, -, hown, hW, -⟩ := id E
  obtain ⟨d, rfl, -⟩ := zdn hM hf (n := 0) rfl
  exact lv_lrem hx hb d hne (kk p ev s m args below meth c H locs ls E hR hn hk0 hlo hl)
theorem z_new {p0 idx nx t : Nat} {lv : Int32} (ci : Nat) {fs : List Value} (hci : ci < 13) (hf : zlk (zFt M) pc = some (p0, .new idx, nx, lv, t)) (hr : zKL[t]? = some ((zNm M).cls, idx, (zcl ci).1)) (hfs : ∀ j, j < (zcl ci).2.2.1 → defaultValue ((zcl ci).2.2.2 j) = vp_V fs j) (hlim : zLim X (znew h (.inr (ci, fs)) (zcl ci).2.2.1)) (kk : Z X M f (znew h (.inr (ci, fs)) (zcl ci).2.2.1) nx L (.ref h.2.1 :: st) Q) : Z X M f h pc L st Q := by
  intro p ev s m args below meth c H locs ls E hR hn hk0 hlo hl
  obtain ⟨hG, hM, hx, hb, -, -, -, hown, hW, -⟩ := id E
  obtain ⟨d, rfl, -⟩ := zdn hM hf (n := 2) rfl
  have hcl := zcl_ok ci hci
  have hts : ∀ w ∈ u_ws (zcl ci).1 (zcl ci).2.1 (zcl ci).2.2.1, w.before args s = true := fun w hw => zw hG hW (hcl.2.1 w hw) (zgl hw)
  have hKn := (zKs hG hW).1 ci _ hcl.1
  have l1 : h.2.1 + 1 ≤ zB X + 601024 := hlim.1
  have l2 : h.2.2 + (zcl ci).2.2.1 ≤ 7293000 := hlim.2
  have r1 := hR.1
  have r2 := hR.2.1
  refine W.newcK hx hb hown (zw hG hW (zKL_in hr) rfl) (zw hG hW (zcn ci hci).1 rfl) (zw hG hW (zcn ci hci).2 rfl) rfl d (by show _ ≤ zB X + 601024 - f.2.2.1; omega) (by show _ ≤ 7293000 - f.2.2.2; omega) hKn.2.1 hR.1 fun H1 kC hkC e1 z1 o1 => ?_
  have g9 := kk p ev s m args below meth c H1 locs ls E (hR.new _ (⟨_, hcl.1, (u_born (zcl ci).2.2.2 hts (fun w hw => hw) hKn hkC e1 hcl.2.2.1).to hfs⟩ : va_at (zD X) vwCl (h.2.1, .inr (ci, fs)) H1) (by omega) (fun q hq => o1 q (by omega)) hlim) (by show _ ≤ h.2.1 + 1; omega) (by show _ ≤ h.2.2 + (zcl ci).2.2.1; omega) hlo hl
  have e8 : h.2.1 - f.2.2.1 + 1 = (znew h (.inr (ci, fs)) (zcl ci).2.2.1).2.1 - f.2.2.1 := by show _ = h.2.1 + 1 - f.2.2.1; omega
  have e9 : h.2.2 - f.2.2.2 + (zcl ci).2.2.1 = (znew h (.inr (ci, fs)) (zcl ci).2.2.1).2.2 - f.2.2.2 := by show _ = h.2.2 + (zcl ci).2.2.1 - f.2.2.2; omega
  rw [e8, e9]
  exact g9
end ZH
end
section
/-! methods by contract: ZM; ends; calls -/
def zcode (M : zMI) : Jvm.Cond := match zHh M with
  | [] => .code (zNm M) (zCd M) (zNL M) (zRt M)
  | q :: r => .codeWith (zNm M) (zCd M) (zNL M) (zRt M) (q :: r)
def zMK (M : zMI) : Prop := zMOK M ∧ plainName (zNm M).cls = true ∧ zcode M ∈ lw_tbl ∧ Jvm.Cond.initialized (zNm M).cls ∈ lw_tbl ∧ (zNm M).cls ≠ "java/lang/invoke/MethodHandle" ∧ (zNm M).cls ≠ "java/lang/invoke/VarHandle"
theorem zcode_good (M : zMI) : goodWord (zcode M) = true := by unfold zcode; split <;> rfl
theorem zcode_spec {M : zMI} {args : Array Value} {s : State} (h : (zcode M).before args s = true) : ∃ m meth c, s.methodNamed? (zNm M) = some m ∧ s.vm.method? m = some meth ∧ meth.code = some c ∧ c.code = zCd M ∧ c.maxLocals = zNL M ∧ c.exceptionTable.toList.map (fun h => (h.startPc, h.endPc, h.handlerPc, h.catchType)) = zHh M ∧ meth.sig.returnType = zRt M ∧ meth.locks = false ∧ parseMethodDescriptor (zNm M).desc = some meth.sig := by
  unfold zcode at h
  split at h
  · rename_i e
    obtain ⟨mk, hn⟩ := Cond.code_named h
    obtain ⟨meth, c, h1, h2, h3, h4, h5, h6, h7, h8⟩ := Cond.code_spec hn h
    refine ⟨mk, meth, c, hn, h1, h2, h3, h4, ?_, h5, h6, h8⟩
    rw [e]
    have h0 : c.exceptionTable.size = 0 := by simpa [Array.isEmpty] using h7
    have h9 : c.exceptionTable.toList = [] := List.eq_nil_of_length_eq_zero (by simpa using h0)
    rw [h9]
    rfl
  · rename_i q r e
    obtain ⟨mk, meth, c, hn, h1, h2, h3, h4, h5, h6, h7, h8⟩ := Cond.codeWith_spec h
    exact ⟨mk, meth, c, hn, h1, h2, h3, h4, by rw [e]; exact h5, h6, h7, h8⟩
def zTb : List Jvm.Cond := lw_tbl.filter goodWord
theorem zTb_in {w : Jvm.Cond} (h : w ∈ lw_tbl) (g : goodWord w = true) : w ∈ zTb := List.mem_filter.mpr ⟨h, g⟩
/-- the method, called with av over the heap h, comes to its end with Q -/
def ZM (X : zCx) (M : zMI) (fr lo : Nat) (av : List Value) (h : zHp) (Q : zRs → zHp → Prop) : Prop :=
  MetFree (zl X) (zNm M) (headSpec zTb (zRm X (fr, lo, h.2.1, h.2.2))) (fun a U => a = av.toArray ∧ (zs X).WarmedH U.vm ∧ zR X h U.heap) (fun _ _ _ _ _ => True) (fun _ st o t => zEnd X h.2.1 h.2.2 st o t Q)
def zarg : List Value → zLo
  | [] => []
  | .long x :: r => some (.long x) :: none :: zarg r
  | .double x :: r => some (.double x) :: none :: zarg r
  | v :: r => some v :: zarg r
def zpad : Nat → zLo
  | 0 => []
  | n + 1 => none :: zpad n
def zent (n : Nat) (av : List Value) : zLo := zarg av ++ zpad (n - (zarg av).length)
theorem zpad_len (n : Nat) : (zpad n).length = n := by induction n with
  | zero => rfl
  | succ n ih => simp [zpad, ih]
theorem zpad_get (n i : Nat) : zget (zpad n) i = none := by
  induction n generalizing i with
  | zero => rfl
  | succ n ih => cases i with
    | zero => rfl
    | succ i => exact ih i
theorem zarg_len (av : List Value) : (zarg av).length = (lg_sl av).length := by
  induction av with
  | nil => rfl
  | cons v r ih => cases v <;> simp_all [zarg, lg_sl, Value.category]
theorem zget_app (a b : zLo) (i : Nat) : zget (a ++ b) i = if i < a.length then zget a i else zget b (i - a.length) := by
  induction a generalizing i with
  | nil => simp
  | cons x r ih => cases i with
    | zero => simp [zget]
    | succ i => simp only [List.cons_append, zget, ih, List.length_cons, Nat.add_lt_add_iff_right, Nat.add_sub_add_right]
theorem zarg_in (av : List Value) (o i : Nat) (v : Value) (h : zget (zarg av) i = some v) : (o + i, v) ∈ lv_args o av := by
  induction av generalizing o i with
  | nil => simp [zarg, zget] at h
  | cons w r ih =>
    have two : ∀ (w : Value), w.category = 2 → zarg (w :: r) = some w :: none :: zarg r → zget (zarg (w :: r)) i = some v → (o + i, v) ∈ lv_args o (w :: r) := by
      intro w hw e h
      rw [e] at h
      unfold lv_args
      rw [if_pos hw]
      match i, h with
      | 0, h => cases h; exact List.mem_cons_self
      | 1, h => simp [zget] at h
      | i + 2, h =>
        have := ih (o + 2) i h
        rw [show o + 2 + i = o + (i + 2) by omega] at this
        exact List.mem_cons_of_mem _ this
    have one : ∀ (w : Value), ¬ w.category = 2 → zarg (w :: r) = some w :: zarg r → zget (zarg (w :: r)) i = some v → (o + i, v) ∈ lv_args o (w :: r) := by
      intro w hw e h
      rw [e] at h
      unfold lv_args
      rw [if_neg hw]
      match i, h with
      | 0, h => cases h; exact List.mem_cons_self
      | i + 1, h =>
        have := ih (o + 1) i h
        rw [show o + 1 + i = o + (i + 1) by omega] at this
        exact List.mem_cons_of_mem _ this
    cases w with
    | long x => exact two _ rfl rfl h
    | double x => exact two _ rfl rfl h
    | int x => exact one _ (by simp [Value.category]) rfl h
    | float x => exact one _ (by simp [Value.category]) rfl h
    | null => exact one _ (by simp [Value.category]) rfl h
    | ref x => exact one _ (by simp [Value.category]) rfl h
    | retAddr x => exact one _ (by simp [Value.category]) rfl h
theorem zent_ls (n : Nat) (av : List Value) (h : (zarg av).length ≤ n) : zLs ((lg_sl av ++ List.replicate (n - (lg_sl av).length) Slot.unset).toArray) n (zent n av) := by
  refine ⟨?_, lv_args 0 av, lv_entry av (by rw [← zarg_len]; exact h), fun i v hi => ?_⟩
  · unfold zent
    rw [List.length_append, zpad_len]
    omega
  · unfold zent at hi
    rw [zget_app] at hi
    split at hi
    · have := zarg_in av 0 i v hi
      rwa [Nat.zero_add] at this
    · rw [zpad_get] at hi
      cases hi
theorem z_rfv (r : Option Nat) : va_rf r = .null ∨ ∃ a, va_rf r = .ref a := by
  cases r with
  | none => exact Or.inl rfl
  | some a => exact Or.inr ⟨a, rfl⟩
section ZC
variable {X : zCx} {M : zMI} {f : zFr} {h : zHp} {pc : Nat} {L : zLo} {st : List Value} {Q : zRs → zHp → Prop}
theorem zm_of_z {fr lo : Nat} {av : List Value} {L0 : zLo} (G : zG X) (hK : zMK M) (hl : Nat.ble (zarg av).length (zNL M) = true) (hL : zfc (zent (zNL M) av) (fun L => L) = L0) (k : Z X M (fr, lo, h.2.1, h.2.2) h 0 L0 [] Q) : ZM X M fr lo av h Q := by
  obtain ⟨hM, hpl, hcd, hin, -, -⟩ := hK
  rw [zfc_eq] at hL
  subst hL
  have hcz : zcode M ∈ zTb := zTb_in hcd (zcode_good M)
  refine MetFree.of_bodyS (code := zCd M) (maxLocals := zNL M) (ret := zRt M) hpl ?_ ?_
  · intro args s m hp hn
    obtain ⟨m9, meth, c, g0, g1, g2, g3, g4, g5, g6, g7, g8⟩ := zcode_spec (atoms_spec (ws := zTb) hp _ hcz)
    cases hn.symm.trans g0
    exact ⟨meth, c, g1, g2, g3, g4, g6, g7⟩
  · intro p e s m args below meth c s₁ B hml hP _
    obtain ⟨rfl, hW, hR⟩ := hP
    obtain ⟨m9, meth9, c9, g0, g1, g2, g3, g4, g5, g6, g7, g8⟩ := zcode_spec (atoms_spec (ws := zTb) B.pre _ hcz)
    have e1 : m9 = m := Option.some.inj (g0.symm.trans B.named)
    subst e1
    have e2 : meth9 = meth := Option.some.inj (g1.symm.trans B.method)
    subst e2
    have e3 : c9 = c := Option.some.inj (g2.symm.trans (Stand.of_body B).code)
    subst e3
    have hh0 : s₁.heap = s.heap := by rw [B.state]; rfl
    have K := k p e s _ av.toArray below _ _ s.heap [] _ ⟨G, hM, B.exec, B.bytes, B.returns, B.notSynchronized, hml, findClass_of_methodNamed B.named, hW, hR.1, (name_of_methodNamed B.named B.method).1, g5⟩ hR (Nat.le_refl _) (Nat.le_refl _) (fun q hq => by cases hq) (zent_ls (zNL M) av (Nat.le_of_ble_eq_true hl))
    rw [Nat.sub_self, Nat.sub_self, ← lg_entry_eq] at K
    obtain ⟨t, a1, o, b1, b2, b3⟩ := K s₁ hh0 (Stand.of_body B)
    exact ⟨t, o, a1, b1, b2, b3⟩
theorem Wmono {p : Program} {l : Launch} {e : Env} {R : Room} {s : State} {m : MethodId} {args : Array Value} {below : List Frame} {meth : Method} {c : Code} {H : Heap} {locs : List Loc} {cells slots : Nat} {Q1 Q2 : State → Prop} {g : JFrame} (hq : ∀ t, Q1 t → Q2 t) (k : W p l e R s m args below meth c H locs cells slots Q1 g) : W p l e R s m args below meth c H locs cells slots Q2 g := fun T hT X => by
  obtain ⟨t, a, b⟩ := k T hT X
  exact ⟨t, a, hq t b⟩
theorem z_fin {s : State} {args : Array Value} {below : List Frame} {H : Heap} {v : Option Value} (hR : zR X h H) (hn : f.2.2.1 ≤ h.2.1) (hk : f.2.2.2 ≤ h.2.2) (hq : Q (.inl v) h) (t : State) (k : MQ below (fun _ _ o t => o = .returned v ∧ t.heap = H) args s (h.2.1 - f.2.2.1) (h.2.2 - f.2.2.2) (fun q => zB X ≤ q) t) : zF X f.2.2.1 f.2.2.2 below s Q t := by
  obtain ⟨o, b1, b2, ⟨rfl, b3⟩, L, ⟨-, b5, b6⟩, b7⟩ := k
  exact ⟨_, b1, b2, .inl v, h, rfl, hq, by rw [b3]; exact hR, hn, hk, b5, L, b6, b7⟩
theorem z_iret {v : Int32} {p0 nx t : Nat} {lv : Int32} (hf : zlk (zFt M) pc = some (p0, .ireturn, nx, lv, t)) (hrt : zRt M = some .int) (hq : Q (.inl (some (.int v))) h) : Z X M f h pc L [.int v] Q := by
  intro p ev s m args below meth c H locs ls E hR hn hk hlo hl
  obtain ⟨hG, hM, hx, hb, hr, hlk, -⟩ := id E
  obtain ⟨d, rfl, -⟩ := zdn hM hf (n := 0) rfl
  exact Wmono (z_fin hR hn hk hq) (W.iret (v := v) hx hb (hr.trans hrt) (fun t ht _ => ⟨rfl, ht⟩) hlo d hlk)
theorem z_zret {v : Int32} {p0 nx t : Nat} {lv : Int32} (hf : zlk (zFt M) pc = some (p0, .ireturn, nx, lv, t)) (hrt : zRt M = some .boolean) (hv : narrow .boolean (.int v) = .int v) (hq : Q (.inl (some (.int v))) h) : Z X M f h pc L [.int v] Q := by
  intro p ev s m args below meth c H locs ls E hR hn hk hlo hl
  obtain ⟨hG, hM, hx, hb, hr, hlk, -⟩ := id E
  obtain ⟨d, rfl, -⟩ := zdn hM hf (n := 0) rfl
  exact Wmono (z_fin hR hn hk hq) (W.zret (v := v) hx hb (hr.trans hrt) hv (fun t ht _ => ⟨rfl, ht⟩) hlo d hlk)
theorem z_lret {v : Int64} {p0 nx t : Nat} {lv : Int32} (hf : zlk (zFt M) pc = some (p0, .lreturn, nx, lv, t)) (hrt : zRt M = some .long) (hq : Q (.inl (some (.long v))) h) : Z X M f h pc L [.long v] Q := by
  intro p ev s m args below meth c H locs ls E hR hn hk hlo hl
  obtain ⟨hG, hM, hx, hb, hr, hlk, -⟩ := id E
  obtain ⟨d, rfl, -⟩ := zdn hM hf (n := 0) rfl
  exact Wmono (z_fin hR hn hk hq) (W.lret (v := v) hx hb (hr.trans hrt) (fun t ht _ => ⟨rfl, ht⟩) hlo d hlk)
theorem z_vret {p0 nx t : Nat} {lv : Int32} (hf : zlk (zFt M) pc = some (p0, .return_, nx, lv, t)) (hrt : zRt M = none) (hq : Q (.inl none) h) : Z X M f h pc L [] Q := by
  intro p ev s m args below meth c H locs ls E hR hn hk hlo hl
  obtain ⟨hG, hM, hx, hb, hr, hlk, -⟩ := id E
  obtain ⟨d, rfl, -⟩ := zdn hM hf (n := 0) rfl
  exact Wmono (z_fin hR hn hk hq) (W.vret hx hb (hr.trans hrt) (fun t ht _ => ⟨rfl, ht⟩) hlo d hlk)
theorem z_aret {r : Option Nat} {p0 nx t : Nat} {lv : Int32} {rt : FieldType} (hf : zlk (zFt M) pc = some (p0, .areturn, nx, lv, t)) (hrt : zRt M = some rt) (hro : (∃ n, rt = .object n) ∨ ∃ t, rt = .array t) (hq : Q (.inl (some (va_rf r))) h) : Z X M f h pc L [va_rf r] Q := by
  intro p ev s m args below meth c H locs ls E hR hn hk hlo hl
  obtain ⟨hG, hM, hx, hb, hr, hlk, -⟩ := id E
  obtain ⟨d, rfl, -⟩ := zdn hM hf (n := 0) rfl
  exact Wmono (z_fin hR hn hk hq) (W.aret (v := va_rf r) hx hb (hr.trans hrt) hro (z_rfv r) (fun t ht _ => ⟨rfl, ht⟩) hlo d hlk)
/-- from here on, with an exception of class E thrown at pc -/
def ZT (X : zCx) (M : zMI) (f : zFr) (h : zHp) (pc : Nat) (L : zLo) (E : String) (Q : zRs → zHp → Prop) : Prop :=
  ∀ (p : Program) (e : Env) (s : State) (m : MethodId) (args : Array Value) (below : List Frame) (meth : Method) (c : Code) (H : Heap) (locs : List Loc) (ls : Array Slot) (st : List Value) (q : Nat) (ce : Cell),
    zE X M f.2.2.1 p s m meth c → zR X h H → f.2.2.1 ≤ h.2.1 → f.2.2.2 ≤ h.2.2 → (∀ q ∈ locs, zB X ≤ q.base) → zLs ls (zNL M) L → H[q]? = some ce → ce.vm = .none → (zs X).vm.findClass E = some ce.cls →
    vx_W p (zl X) e (zRm X f) s m args below meth c H locs (h.2.1 - f.2.2.1) (h.2.2 - f.2.2.2) (zF X f.2.2.1 f.2.2.2 below s Q) (F0 m pc ls st) q
theorem zt_out {E : String} (hh : zHh M = []) (hq : Q (.inr E) h) : ZT X M f h pc L E Q := by
  intro p ev s m args below meth c H locs ls st q ce E9 hR hn hk hlo hl hc hv hcl T hT X9
  obtain ⟨hG, hM, hx, hb, hr, hlk, -, -, -, -, -, htab⟩ := E9
  rw [hh] at htab
  have h0 : c.exceptionTable.toList = [] := List.map_eq_nil_iff.mp htab
  obtain ⟨st1, hrun, hend, hW, hsm⟩ := X9.leaveThrown q (g := F0 m pc ls st) rfl rfl rfl (fun x hx => by rw [h0] at hx; cases hx) hlk
  have hh9 : (T.setFrames (.throwing q :: below)).heap = H := hT
  exact ⟨_, st1, .threw q, hrun, hend, .inr E, h, ⟨q, ce, rfl, by rw [hh9]; exact hc, hv, hcl⟩, hq, by rw [hh9]; exact hR, hn, hk, hW, locs, hsm, hlo⟩
end ZC
end
section
/-- the callee's end, seen by the caller -/
def zBk9 (X : zCx) (p : Program) (e : Env) (R : Room) (s : State) (m : MethodId) (sargs : Array Value) (below : List Frame) (meth : Method) (c : Code) (Ls : List Loc) (c0 s0 : Nat) (g : JFrame) (len : Nat) (h : zHp) (Q : zRs → zHp → Prop) (from9 : State) : Prop :=
  ∃ (r : zRs) (h' : zHp) (U' : State) (L : List Loc), Stand p (zl X) e R s m sargs below meth c U' (Ls ++ L) (c0 + (h'.2.1 - h.2.1)) (s0 + (h'.2.2 - h.2.2)) ∧ Q r h' ∧ zR X h' U'.heap ∧ h.2.1 ≤ h'.2.1 ∧ h.2.2 ≤ h'.2.2 ∧ (∀ q ∈ L, zB X ≤ q.base) ∧
    match r with
    | .inl v => Steps p.tables e below from9 (U'.setTop { g with pc := g.pc + len, stack := v.toList ++ g.stack })
    | .inr E => ∃ (q : Nat) (ce : Cell), U'.heap[q]? = some ce ∧ ce.vm = .none ∧ (zs X).vm.findClass E = some ce.cls ∧ Steps p.tables e below from9 ((U'.setTop g).pushFrame (.throwing q))
theorem z_back {X : zCx} {M' : zMI} {fr lo : Nat} {av : List Value} {h : zHp} {Q' : zRs → zHp → Prop} (hM : ZM X M' fr lo av h Q') (G : zG X) (hK : zMK M') {p : Program} {e : Env} {R : Room} {s : State} {m : MethodId} {sargs : Array Value} {below : List Frame} {meth : Method} {c : Code} {U : State} {Ls : List Loc} {c0 s0 W9 : Nat}
    (X0 : Stand p (zl X) e R s m sargs below meth c U Ls c0 s0) (hW : (zs X).WarmedH U.vm) (hR : zR X h U.heap) (hframes : fr + 1 ≤ R.frames) (hlocals : W9 + (zNL M' + 11) + lo ≤ R.locals) (hc : c0 + (zB X + 601024 - h.2.1) ≤ R.cells) (hs : s0 + (7293000 - h.2.2) ≤ R.slots)
    {g : JFrame} (hg : g.method = m) (hsize : g.locals.size = c.maxLocals) {ig : Instr} {len : Nat} (hdg : decode c.code g.pc = .ok (ig, len)) (hW9 : 2 * g.monitorRoom + (g.stack.map fun v => v.category).sum ≤ W9) {mk : MethodId} (hn : U.methodNamed? (zNm M') = some mk) :
    zBk9 X p e R s m sargs below meth c Ls c0 s0 g len h Q' (doInvoke e (U.setTop g) [] mk av.toArray).1 := by
  have hpre : (headSpec zTb (zRm X (fr, lo, h.2.1, h.2.2))).pre.before av.toArray U = true := atoms_intro fun w hw => zw G hW (List.mem_filter.mp hw).1 (List.mem_filter.mp hw).2
  obtain ⟨m9, methY, cY, g0, hmY, hcY, -, hlY, -, -, -, -⟩ := zcode_spec (zw G (args := av.toArray) hW hK.2.2.1 (zcode_good M'))
  cases hn.symm.trans g0
  obtain ⟨kY, hkY, -⟩ := className_of_methodNamed hn
  have hinitY : kY.init = .initialized := Cond.initialized_spec (findClass_of_methodNamed hn) hkY (zw G (args := av.toArray) hW hK.2.2.2.1 rfl)
  have h9 : At U g.method c below := by rw [hg]; exact X0.here
  have happ : (headSpec zTb (zRm X (fr, lo, h.2.1, h.2.2))).appliesLoose (zNm M') e.platform (U.calling g mk av.toArray) = true :=
    Spec.appliesLoose_calling (g := g) h9 hdg hn hkY hinitY
      (X0.room_calling (g := g) (R' := zRm X (fr, lo, h.2.1, h.2.2)) hsize hmY hcY hframes (by rw [hlY]; show _ + lo ≤ _; omega) hc hs) hpre
  obtain ⟨mid, hmid⟩ := h9.above
  have hfr : (U.setTop g).frames = (.java g :: mid) ++ below := by rw [State.frames_setTop' g h9.top, hmid]; rfl
  obtain ⟨o, s₂, hsteps, -, hend, hq⟩ := Steps.callFree hM p X0.admits X0.cas X0.clock (acts := []) hfr happ ⟨rfl, hW, hR⟩ trivial
  rw [State.frames_setTop' g h9.top] at hend
  obtain ⟨g₀, hg0⟩ := Option.isSome_iff_exists.mp h9.top
  obtain ⟨rr, hr⟩ := State.topJava?_eq_some.mp hg0
  have hr' : (({ U with heap := s₂.heap, slotsUsed := s₂.slotsUsed } : State).setVm s₂.vm).frames = .java g₀ :: rr := hr
  have hq' : zEnd X h.2.1 h.2.2 (U.calling g mk av.toArray) o s₂ Q' := hq
  obtain ⟨r, h', hO, hQ, hR', hl1, hl2, hW₂, L, hsm, hLb⟩ := hq'
  obtain ⟨e2, q2, q3, q4, q5, q6⟩ := id hsm
  have e3 : s₂ = ({ (U.calling g mk av.toArray).setFrames s₂.frames with heap := s₂.heap, slotsUsed := s₂.slotsUsed } : State).setVm s₂.vm := by
    have : s₂ = ({ s₂ with vm := (U.calling g mk av.toArray).vm } : State).setVm s₂.vm := rfl
    rw [e2] at this
    exact this
  have hW' : U.WarmedH s₂.vm := hW₂
  have hsame : U.sameButNew ({ U with heap := s₂.heap, slotsUsed := s₂.slotsUsed } : State) L (h'.2.1 - h.2.1) (h'.2.2 - h.2.2) := by
    refine ⟨?_, q2, q3, q4, q5, q6⟩
    obtain ⟨t, ht, -⟩ := State.frames_cons hr
    show ({ U with heap := s₂.heap, slotsUsed := s₂.slotsUsed } : State) = { U.setFrames U.frames with heap := s₂.heap, slotsUsed := s₂.slotsUsed }
    rw [State.setFrames_self ht]
  have hcc := hg
  have hst : Stand p (zl X) e R s m sargs below meth c (({ U with heap := s₂.heap, slotsUsed := s₂.slotsUsed } : State).setVm s₂.vm) (Ls ++ L) (c0 + (h'.2.1 - h.2.1)) (s0 + (h'.2.2 - h.2.2)) :=
    ⟨X0.admits, X0.cas, X0.clock, X0.frames, X0.room, X0.hears, X0.method, X0.code, (X0.here.setHeapUsed s₂.heap s₂.slotsUsed).setVm hW'.alike, X0.tail, State.WarmedH.trans X0.warmed hW', X0.limits, X0.bytes, X0.same.trans (hsame.setVm s.vm)⟩
  refine ⟨r, h', _, L, hst, hQ, hR', hl1, hl2, hLb, ?_⟩
  cases r with
  | inl v =>
    have hv : o = .returned v := hO
    subst hv
    obtain ⟨c₂, i₂, len₂, hc₂, hd₂, hf₂⟩ := hend
    have hcc : c₂ = c := by
      have h1 : s₂.code? g.method = U.code? g.method := by
        rw [State.code?_eq, State.code?_eq, hW'.alike.method?]
      exact Option.some.inj (hc₂.symm.trans (h1.trans h9.code))
    subst hcc
    have hlen : len₂ = len := by rw [hdg] at hd₂; cases hd₂; rfl
    subst hlen
    have hs₂ : s₂ = (({ U with heap := s₂.heap, slotsUsed := s₂.slotsUsed } : State).setVm s₂.vm).setTop { g with pc := g.pc + len₂, stack := v.toList ++ g.stack } := by
      refine e3.trans ?_
      rw [hf₂, State.calling_eq h9.top, State.setFrames_setFrames, State.setTop_of_frames _ hr', hr]
      rfl
    show Steps p.tables e below _ ((({ U with heap := s₂.heap, slotsUsed := s₂.slotsUsed } : State).setVm s₂.vm).setTop { g with pc := g.pc + len₂, stack := v.toList ++ g.stack })
    rw [← hs₂]
    exact hsteps
  | inr E =>
    obtain ⟨q, ce, hoq, hce, hcv, hcl⟩ := hO
    subst hoq
    have hf₂ : s₂.frames = .throwing q :: .java g :: U.frames.tail := hend
    have hs₂ : s₂ = ((({ U with heap := s₂.heap, slotsUsed := s₂.slotsUsed } : State).setVm s₂.vm).setTop g).pushFrame (.throwing q) := by
      refine e3.trans ?_
      rw [hf₂, State.calling_eq h9.top, State.setFrames_setFrames, State.pushFrame, State.frames_setTop _ hr', State.setTop_of_frames _ hr', State.setFrames_setFrames, hr]
      rfl
    refine ⟨q, ce, hce, hcv, hcl, ?_⟩
    show Steps p.tables e below _ (((({ U with heap := s₂.heap, slotsUsed := s₂.slotsUsed } : State).setVm s₂.vm).setTop g).pushFrame (.throwing q))
    rw [← hs₂]
    exact hsteps
def zap : List Value → List Value → List Value
  | [], st => st
  | a :: r, st => zap r (a :: st)
theorem zap_eq (As st : List Value) : zap As st = As.reverse ++ st := by
  induction As generalizing st with
  | nil => rfl
  | cons a r ih => simp [zap, ih]
def zcat (st : List Value) : Nat := (st.map fun v => v.category).sum
section ZV
variable {X : zCx} {M : zMI} {f : zFr} {h : zHp} {pc : Nat} {L : zLo} {Q : zRs → zHp → Prop}
/-- behind a call: what all kinds of call have in common -/
theorem z_goon {M' : zMI} {fr lo : Nat} {av st : List Value} {Q' : zRs → zHp → Prop} (hM : ZM X M' fr lo av h Q') (hK : zMK M') (hfr : Nat.ble (fr + 1) f.1 = true) (hlc : Nat.ble (8 + (zNL M' + 11) + lo) f.2.1 = true) (hw : Nat.ble (zcat st) 8 = true)
    (kk : ∀ v h', Q' (.inl v) h' → Z X M f h' (pc + 3) L (v.toList ++ st) Q) (kx : ∀ E h', Q' (.inr E) h' → ZT X M f h' pc L E Q)
    {p : Program} {ev : Env} {s : State} {m : MethodId} {args : Array Value} {below : List Frame} {meth : Method} {c : Code} {H : Heap} {locs : List Loc} {ls : Array Slot} {stk : List Value} (E : zE X M f.2.2.1 p s m meth c) (hR : zR X h H) (hn : f.2.2.1 ≤ h.2.1) (hk0 : f.2.2.2 ≤ h.2.2) (hlo : ∀ q ∈ locs, zB X ≤ q.base) (hl : zLs ls (zNL M) L)
    {T : State} (hT : T.heap = H) {vm₁ : Vm} (X₁ : Stand p (zl X) ev (zRm X f) s m args below meth c (T.setVm vm₁) locs (h.2.1 - f.2.2.1) (h.2.2 - f.2.2.2)) {mk : MethodId} (hnm : (T.setVm vm₁).methodNamed? (zNm M') = some mk) {ig : Instr} (hdg : decode (zCd M) pc = .ok (ig, 3))
    (hst : ∀ target, Steps p.tables ev below (doInvoke ev ((T.setVm vm₁).setTop (F0 m pc ls st)) [] mk av.toArray).1 target → Steps p.tables ev below (T.setTop (F0 m pc ls stk)) target) :
    ∃ t, Steps p.tables ev below (T.setTop (F0 m pc ls stk)) t ∧ zF X f.2.2.1 f.2.2.2 below s Q t := by
  obtain ⟨hG, hMo, hx, hb, -, -, hml, -, hW, -⟩ := id E
  have l1 := hR.2.2.2.2.1
  have l2 := hR.2.2.2.2.2
  obtain ⟨r, h', U', L9, X', hQ, hR', hm1, hm2, hLb, hr⟩ := z_back (W9 := 8) (g := F0 m pc ls st) (len := 3) (ig := ig) hM hG hK X₁ (State.WarmedH.trans hW X₁.warmed) (by show zR X h T.heap; rw [hT]; exact hR) (Nat.le_of_ble_eq_true hfr) (Nat.le_of_ble_eq_true hlc) (by show _ ≤ zB X + 601024 - f.2.2.1; omega) (by show _ ≤ 7293000 - f.2.2.2; omega) rfl (by show ls.size = _; rw [hml]; obtain ⟨-, l, q1, -⟩ := hl; exact q1.1) (by rw [hb]; exact hdg) (by show 2 * 0 + (st.map fun v => v.category).sum ≤ 8; have := Nat.le_of_ble_eq_true hw; unfold zcat at this; omega) hnm
  have e8 : h.2.1 - f.2.2.1 + (h'.2.1 - h.2.1) = h'.2.1 - f.2.2.1 := by omega
  have e9 : h.2.2 - f.2.2.2 + (h'.2.2 - h.2.2) = h'.2.2 - f.2.2.2 := by omega
  rw [e8, e9] at X'
  have hlo' : ∀ q ∈ locs ++ L9, zB X ≤ q.base := fun q hq => (List.mem_append.mp hq).elim (hlo q) (hLb q)
  cases r with
  | inl v =>
    obtain ⟨t, a1, b1⟩ := kk v h' hQ p ev s m args below meth c U'.heap (locs ++ L9) ls E hR' (by omega) (by omega) hlo' hl U' rfl X'
    exact ⟨t, hst _ (hr.trans a1), b1⟩
  | inr E9 =>
    obtain ⟨q, ce, hce, hcv, hcl, hs⟩ := hr
    obtain ⟨t, a1, b1⟩ := kx E9 h' hQ p ev s m args below meth c U'.heap (locs ++ L9) ls st q ce E hR' (by omega) (by omega) hlo' hl hce hcv hcl U' rfl X'
    exact ⟨t, hst _ (hs.trans a1), b1⟩
/-- invokestatic -/
theorem z_invS {M' : zMI} {fr lo : Nat} {As st stk : List Value} {Q' : zRs → zHp → Prop} {p0 idx nx t : Nat} {lv : Int32} (hM : ZM X M' fr lo As h Q') (hK : zMK M') (hsa : Jvm.Cond.static (zNm M') ∈ lw_tbl) (hf : zlk (zFt M) pc = some (p0, .invokestatic idx, nx, lv, t)) (hr : zML[t]? = some ((zNm M).cls, idx, zNm M')) (hln : (parseMethodDescriptor (zNm M').desc).map (fun d => d.parameters.length) = some As.length) (hfr : Nat.ble (fr + 1) f.1 = true) (hlc : Nat.ble (8 + (zNL M' + 11) + lo) f.2.1 = true) (hstk : zap As st = stk) (hw : Nat.ble (zcat st) 8 = true)
    (kk : ∀ v h', Q' (.inl v) h' → Z X M f h' nx L (v.toList ++ st) Q) (kx : ∀ E h', Q' (.inr E) h' → ZT X M f h' pc L E Q) : Z X M f h pc L stk Q := by
  intro p ev s m args below meth c H locs ls E hR hn hk0 hlo hl T hT X0
  obtain ⟨hG, hMo, hx, hb, -, -, hml, hown, hW, -⟩ := id E
  obtain ⟨d, rfl, -⟩ := zdn hMo hf (n := 2) rfl
  obtain ⟨mk, methM, cM, hnamed, hmethM, -, -, -, -, -, -, hsigM⟩ := zcode_spec (zw hG (args := args) hW hK.2.2.1 (zcode_good M'))
  have hstatic : methM.isStatic = true := Cond.static_spec hnamed hmethM (zw hG (args := args) hW hsa rfl)
  obtain ⟨kP, hkP, -⟩ := className_of_methodNamed hnamed
  have hinitP : kP.init = .initialized := Cond.initialized_spec (findClass_of_methodNamed hnamed) hkP (zw hG (args := args) hW hK.2.2.2.1 rfl)
  have hlen : As.length = methM.sig.parameters.length := by rw [hsigM] at hln; exact (Option.some.inj hln).symm
  rw [zap_eq] at hstk
  obtain ⟨vm₁, X₁, hstep₁⟩ := X0.invokestatic hx hown (zw hG hW (zML_in hr) rfl) hnamed hmethM hstatic hkP hinitP hK.2.2.2.2 (g := F0 m pc ls stk) rfl (argsL := As) (rest := st) hlen hstk.symm (by rw [hb]; exact d)
  exact z_goon hM hK hfr hlc hw kk kx E hR hn hk0 hlo hl hT X₁ (X₁.named hnamed) d (fun target hh => hstep₁ _ fun acts => by rw [doInvoke_state]; exact hh)
/-- invokestatic across the nest -/
theorem z_invN {M' : zMI} {fr lo : Nat} {As st stk : List Value} {Q' : zRs → zHp → Prop} {p0 idx nx t : Nat} {lv : Int32} {host : String} (hM : ZM X M' fr lo As h Q') (hK : zMK M') (hsa : Jvm.Cond.static (zNm M') ∈ lw_tbl) (hf : zlk (zFt M) pc = some (p0, .invokestatic idx, nx, lv, t)) (hr : zMN[t]? = some ((zNm M).cls, idx, zNm M', host)) (hln : (parseMethodDescriptor (zNm M').desc).map (fun d => d.parameters.length) = some As.length) (hfr : Nat.ble (fr + 1) f.1 = true) (hlc : Nat.ble (8 + (zNL M' + 11) + lo) f.2.1 = true) (hstk : zap As st = stk) (hw : Nat.ble (zcat st) 8 = true)
    (kk : ∀ v h', Q' (.inl v) h' → Z X M f h' nx L (v.toList ++ st) Q) (kx : ∀ E h', Q' (.inr E) h' → ZT X M f h' pc L E Q) : Z X M f h pc L stk Q := by
  intro p ev s m args below meth c H locs ls E hR hn hk0 hlo hl T hT X0
  obtain ⟨hG, hMo, hx, hb, -, -, hml, hown, hW, -⟩ := id E
  obtain ⟨d, rfl, -⟩ := zdn hMo hf (n := 2) rfl
  obtain ⟨mk, methM, cM, hnamed, hmethM, -, -, -, -, -, -, hsigM⟩ := zcode_spec (zw hG (args := args) hW hK.2.2.1 (zcode_good M'))
  have hstatic : methM.isStatic = true := Cond.static_spec hnamed hmethM (zw hG (args := args) hW hsa rfl)
  obtain ⟨kP, hkP, -⟩ := className_of_methodNamed hnamed
  have hinitP : kP.init = .initialized := Cond.initialized_spec (findClass_of_methodNamed hnamed) hkP (zw hG (args := args) hW hK.2.2.2.1 rfl)
  have hlen : As.length = methM.sig.parameters.length := by rw [hsigM] at hln; exact (Option.some.inj hln).symm
  have hlink : va_Nw (.methodLinkNest (zNm M).cls idx (zNm M') host) s := va_Nw.warmM hW (va_Nw.of rfl (hG.1 _ (zMN_in hr)))
  rw [zap_eq] at hstk
  obtain ⟨vm₁, X₁, hstep₁⟩ := X0.invokestaticNest hx hown (va_Nw.use rfl hlink) hnamed hmethM hstatic hkP hinitP hK.2.2.2.2 (g := F0 m pc ls stk) rfl (argsL := As) (rest := st) hlen hstk.symm (by rw [hb]; exact d)
  exact z_goon hM hK hfr hlc hw kk kx E hR hn hk0 hlo hl hT X₁ (X₁.named hnamed) d (fun target hh => hstep₁ _ fun acts => by rw [doInvoke_state]; exact hh)
/-- invokevirtual of a method that the receiver's class ci selects itself -/
theorem z_invV {M' : zMI} {fr lo b ci : Nat} {fs As st stk : List Value} {Q' : zRs → zHp → Prop} {p0 idx nx t : Nat} {lv : Int32} (hM : ZM X M' fr lo (.ref b :: As) h Q') (hK : zMK M') (hob : h.1 b = some (.inr (ci, fs))) (hci : ci < 13) (hin : Jvm.Cond.instanceMethod (zNm M') ∈ lw_tbl) (hse : Jvm.Cond.selects (zcl ci).1 (zNm M') (zNm M') ∈ lw_tbl) (hf : zlk (zFt M) pc = some (p0, .invokevirtual idx, nx, lv, t)) (hr : zML[t]? = some ((zNm M).cls, idx, zNm M')) (hln : (parseMethodDescriptor (zNm M').desc).map (fun d => d.parameters.length) = some As.length) (hfr : Nat.ble (fr + 1) f.1 = true) (hlc : Nat.ble (8 + (zNL M' + 11) + lo) f.2.1 = true) (hstk : zap (.ref b :: As) st = stk) (hw : Nat.ble (zcat st) 8 = true)
    (kk : ∀ v h', Q' (.inl v) h' → Z X M f h' nx L (v.toList ++ st) Q) (kx : ∀ E h', Q' (.inr E) h' → ZT X M f h' pc L E Q) : Z X M f h pc L stk Q := by
  intro p ev s m args below meth c H locs ls E hR hn hk0 hlo hl T hT X0
  obtain ⟨hG, hMo, hx, hb, -, -, hml, hown, hW, -⟩ := id E
  obtain ⟨d, rfl, -⟩ := zdn hMo hf (n := 2) rfl
  obtain ⟨mk, methM, hnamed, hmethM, hstM, habM⟩ := Cond.instanceMethod_spec (zw hG (args := args) hW hin rfl)
  obtain ⟨mk', methM', cM, hnamed', hmethM', -, -, -, -, -, -, hsigM⟩ := zcode_spec (zw hG (args := args) hW hK.2.2.1 (zcode_good M'))
  cases hnamed.symm.trans hnamed'
  cases hmethM.symm.trans hmethM'
  obtain ⟨c2, r2, m2, q1, q2, q3, q4, kP, hkP, hkPi⟩ := Cond.selects_spec (zw hG (args := args) hW hse rfl)
  obtain ⟨r', hr', cellB, g1, g2, g3, -⟩ := z_at hR hob
  have hcls : s.vm.findClass (zcl ci).1 = some cellB.cls := by
    rw [g2]
    exact ((zKs hG hW).1 ci _ (zcl_ok ci hci).1).2.1
  cases hcls.symm.trans q1
  cases (State.methodFound?_of_named hnamed hK.2.2.2.2).symm.trans q2
  cases hnamed.symm.trans q3
  have hselP : selectMethod ev.platform s.vm cellB.cls mk = .method mk := by rw [Launch.admits_selectMethod X0.admits]; exact q4
  have hlen : As.length = methM.sig.parameters.length := by rw [hsigM] at hln; exact (Option.some.inj hln).symm
  rw [zap_eq] at hstk
  obtain ⟨vm₁, X₁, hstep₁⟩ := X0.invokevirtual hx hown (zw hG hW (zML_in hr) rfl) hnamed hmethM hstM hkP hkPi hK.2.2.2.2 (a := b) (cell := cellB) (by rw [hT]; exact g1)
    (fun z hz => by rw [g3] at hz; cases hz) hselP hmethM habM hkP hkPi (g := F0 m pc ls stk) rfl (argsL := As) (rest := st) hlen (by rw [← hstk]; simp) (by rw [hb]; exact d)
  exact z_goon hM hK hfr hlc hw kk kx E hR hn hk0 hlo hl hT X₁ (X₁.named hnamed) d (fun target hh => hstep₁ _ fun acts => by rw [doInvoke_state]; exact hh)
/-- invokespecial of a constructor -/
theorem z_invI {M' : zMI} {fr lo b : Nat} {As st stk : List Value} {Q' : zRs → zHp → Prop} {p0 idx nx t : Nat} {lv : Int32} (hM : ZM X M' fr lo (.ref b :: As) h Q') (hK : zMK M') (hhh : zHh M' = []) (hrn : zRt M' = none) (hnm : (zNm M').name = "<init>") (hin : Jvm.Cond.instanceMethod (zNm M') ∈ lw_tbl) (hf : zlk (zFt M) pc = some (p0, .invokespecial idx, nx, lv, t)) (hr : zML[t]? = some ((zNm M).cls, idx, zNm M')) (hln : (parseMethodDescriptor (zNm M').desc).map (fun d => d.parameters.length) = some As.length) (hfr : Nat.ble (fr + 1) f.1 = true) (hlc : Nat.ble (8 + (zNL M' + 11) + lo) f.2.1 = true) (hstk : zap (.ref b :: As) st = stk) (hw : Nat.ble (zcat st) 8 = true)
    (kk : ∀ v h', Q' (.inl v) h' → Z X M f h' nx L (v.toList ++ st) Q) (kx : ∀ E h', Q' (.inr E) h' → ZT X M f h' pc L E Q) : Z X M f h pc L stk Q := by
  intro p ev s m args below meth c H locs ls E hR hn hk0 hlo hl T hT X0
  obtain ⟨hG, hMo, hx, hb, -, -, hml, hown, hW, -⟩ := id E
  obtain ⟨d, rfl, -⟩ := zdn hMo hf (n := 2) rfl
  have hpl : ev.platform.magicAccessors = ({} : Platform).magicAccessors := by rw [X0.admits.platform]
  have hcw := zw hG (args := args) hW hK.2.2.1 (zcode_good M')
  have hcw2 : (Jvm.Cond.code (zNm M') (zCd M') (zNL M') none).before args s = true := by
    unfold zcode at hcw
    rw [hhh, hrn] at hcw
    exact hcw
  rw [zap_eq] at hstk
  obtain ⟨mk, methM, cM, kP, vm₁, hnamed, hmethM, hcodeM, -, hlocalsM, -, hkP, -, hW₁, hstep₁⟩ := Steps.initColdArgs (tb := p.tables) (e := ev) X0.here hx X0.warmed hpl hown hnm hK.2.2.2.2 (zw hG (args := args) hW (zML_in hr) rfl) (zw hG (args := args) hW hin rfl) hcw2 (f := F0 m pc ls stk) rfl (argsL := As) (rest := st) (a := b) (fun sig hs9 => by rw [hs9] at hln; exact (Option.some.inj hln).symm) (by show stk = _; rw [← hstk]; simp) (by rw [hb]; exact d)
  have X₁ := X0.noted hW₁
  exact z_goon hM hK hfr hlc hw kk kx E hR hn hk0 hlo hl hT X₁ (X₁.named hnamed) d (fun target hh => hstep₁ _ fun acts => by rw [doInvoke_state]; exact hh)
/-- the constructor of Object -/
theorem z_obj {a : Nat} {st : List Value} {p0 idx nx t : Nat} {lv : Int32} (hf : zlk (zFt M) pc = some (p0, .invokespecial idx, nx, lv, t)) (hr : zML[t]? = some ((zNm M).cls, idx, Lib.objectInit)) (hi : Jvm.Cond.instanceMethod Lib.objectInit ∈ lw_tbl) (hcd : Jvm.Cond.code Lib.objectInit ⟨#[0xb1]⟩ 1 none ∈ lw_tbl) (hfr : Nat.ble 1 f.1 = true) (hlc : Nat.ble 20 f.2.1 = true) (hw : Nat.ble (zcat st) 8 = true) (kk : Z X M f h nx L st Q) : Z X M f h pc L (.ref a :: st) Q := by
  intro p ev s m args below meth c H locs ls E hR hn hk0 hlo hl
  obtain ⟨hG, hMo, hx, hb, -, -, hml, hown, hW, -⟩ := id E
  obtain ⟨d, rfl, -⟩ := zdn hMo hf (n := 2) rfl
  refine W.objInit hx hb hown (zw hG hW (zML_in hr) rfl) (zw hG hW hi rfl) (zw hG hW hcd rfl) rfl (by show ls.size = _; rw [hml]; obtain ⟨-, l, q1, -⟩ := hl; exact q1.1) rfl d (Nat.le_of_ble_eq_true hfr) ?_ (kk p ev s m args below meth c H locs ls E hR hn hk0 hlo hl)
  have h1 := Nat.le_of_ble_eq_true hw
  have h2 := Nat.le_of_ble_eq_true hlc
  unfold zcat at h1
  show 2 * 0 + _ + 12 ≤ f.2.1
  omega
end ZV
end
