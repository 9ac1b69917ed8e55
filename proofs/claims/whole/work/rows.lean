section
-- ===== PART A: goes FIRST, ahead of the names: the tables' words, and 'selects' of the private methods out of them =====
/-- a private method of a class that the tables say can be made, by its rows of tables_1 -/
def lw_okq (q : MethodName × Nat) : Prop := (q.1.cls ≠ "java/lang/invoke/MethodHandle" ∧ q.1.cls ≠ "java/lang/invoke/VarHandle") ∧ Cond.instantiable q.1.cls q.2 ∈ tables_1 ∧ Cond.privateMethod q.1 ∈ tables_1 ∧ Cond.instanceMethod q.1 ∈ tables_1
theorem lw_p0 : lw_okq (⟨"ShadowWard", "permits", "(III)Z"⟩, 6) := ⟨⟨by decide +kernel, by decide +kernel⟩, List.mem_of_getElem? (i := 30) (by decide +kernel), List.mem_of_getElem? (i := 232) (by decide +kernel), List.mem_of_getElem? (i := 233) (by decide +kernel)⟩
theorem lw_p1 : lw_okq (⟨"ShadowWard$Memory", "goodBytes", "(I)I"⟩, 5) := ⟨⟨by decide +kernel, by decide +kernel⟩, List.mem_of_getElem? (i := 38) (by decide +kernel), List.mem_of_getElem? (i := 252) (by decide +kernel), List.mem_of_getElem? (i := 253) (by decide +kernel)⟩
theorem lw_p2 : lw_okq (⟨"ShadowWard", "tell", "(IIII)V"⟩, 6) := ⟨⟨by decide +kernel, by decide +kernel⟩, List.mem_of_getElem? (i := 30) (by decide +kernel), List.mem_of_getElem? (i := 260) (by decide +kernel), List.mem_of_getElem? (i := 261) (by decide +kernel)⟩
theorem lw_p3 : lw_okq (⟨"java/util/ArrayList", "add", "(Ljava/lang/Object;[Ljava/lang/Object;I)V"⟩, 3) := ⟨⟨by decide +kernel, by decide +kernel⟩, List.mem_of_getElem? (i := 88) (by decide +kernel), List.mem_of_getElem? (i := 371) (by decide +kernel), List.mem_of_getElem? (i := 372) (by decide +kernel)⟩
theorem lw_p4 : lw_okq (⟨"java/util/ArrayList", "grow", "()[Ljava/lang/Object;"⟩, 3) := ⟨⟨by decide +kernel, by decide +kernel⟩, List.mem_of_getElem? (i := 88) (by decide +kernel), List.mem_of_getElem? (i := 375) (by decide +kernel), List.mem_of_getElem? (i := 376) (by decide +kernel)⟩
theorem lw_p5 : lw_okq (⟨"java/util/ArrayList", "grow", "(I)[Ljava/lang/Object;"⟩, 3) := ⟨⟨by decide +kernel, by decide +kernel⟩, List.mem_of_getElem? (i := 88) (by decide +kernel), List.mem_of_getElem? (i := 379) (by decide +kernel), List.mem_of_getElem? (i := 380) (by decide +kernel)⟩
theorem lw_p6 : lw_okq (⟨"ShadowWard", "isCount", "(I)Z"⟩, 6) := ⟨⟨by decide +kernel, by decide +kernel⟩, List.mem_of_getElem? (i := 30) (by decide +kernel), List.mem_of_getElem? (i := 439) (by decide +kernel), List.mem_of_getElem? (i := 440) (by decide +kernel)⟩
theorem lw_p7 : lw_okq (⟨"java/lang/Throwable", "fillInStackTrace", "(I)Ljava/lang/Throwable;"⟩, 6) := ⟨⟨by decide +kernel, by decide +kernel⟩, List.mem_of_getElem? (i := 484) (by decide +kernel), List.mem_of_getElem? (i := 482) (by decide +kernel), List.mem_of_getElem? (i := 483) (by decide +kernel)⟩
theorem lw_p8 : lw_okq (⟨"ShadowWard$LostSearch", "markFound", "()V"⟩, 5) := ⟨⟨by decide +kernel, by decide +kernel⟩, List.mem_of_getElem? (i := 183) (by decide +kernel), List.mem_of_getElem? (i := 534) (by decide +kernel), List.mem_of_getElem? (i := 535) (by decide +kernel)⟩
theorem lw_p9 : lw_okq (⟨"ShadowWard$LostSearch", "findFrom", "(LShadowWard$Region;)V"⟩, 5) := ⟨⟨by decide +kernel, by decide +kernel⟩, List.mem_of_getElem? (i := 183) (by decide +kernel), List.mem_of_getElem? (i := 546) (by decide +kernel), List.mem_of_getElem? (i := 547) (by decide +kernel)⟩
theorem lw_p10 : lw_okq (⟨"ShadowWard$LostSearch", "ledToFrom", "(I)LShadowWard$Block;"⟩, 5) := ⟨⟨by decide +kernel, by decide +kernel⟩, List.mem_of_getElem? (i := 183) (by decide +kernel), List.mem_of_getElem? (i := 550) (by decide +kernel), List.mem_of_getElem? (i := 551) (by decide +kernel)⟩
theorem lw_p11 : lw_okq (⟨"ShadowWard$Heap", "chunkOwner", "(I)LShadowWard$Block;"⟩, 8) := ⟨⟨by decide +kernel, by decide +kernel⟩, List.mem_of_getElem? (i := 140) (by decide +kernel), List.mem_of_getElem? (i := 563) (by decide +kernel), List.mem_of_getElem? (i := 564) (by decide +kernel)⟩
theorem lw_p12 : lw_okq (⟨"ShadowWard$LostSearch", "markLedToByLost", "()V"⟩, 5) := ⟨⟨by decide +kernel, by decide +kernel⟩, List.mem_of_getElem? (i := 183) (by decide +kernel), List.mem_of_getElem? (i := 577) (by decide +kernel), List.mem_of_getElem? (i := 578) (by decide +kernel)⟩
theorem lw_p13 : lw_okq (⟨"ShadowWard$LostSearch", "markLedToFrom", "(LShadowWard$Block;)V"⟩, 5) := ⟨⟨by decide +kernel, by decide +kernel⟩, List.mem_of_getElem? (i := 183) (by decide +kernel), List.mem_of_getElem? (i := 585) (by decide +kernel), List.mem_of_getElem? (i := 586) (by decide +kernel)⟩
theorem lw_p14 : lw_okq (⟨"ShadowWard$Globals", "nextAddress", "()I"⟩, 2) := ⟨⟨by decide +kernel, by decide +kernel⟩, List.mem_of_getElem? (i := 82) (by decide +kernel), List.mem_of_getElem? (i := 605) (by decide +kernel), List.mem_of_getElem? (i := 606) (by decide +kernel)⟩
theorem lw_p15 : lw_okq (⟨"ShadowWard$Frames", "addVariable", "(LShadowWard$Frame;II)I"⟩, 2) := ⟨⟨by decide +kernel, by decide +kernel⟩, List.mem_of_getElem? (i := 123) (by decide +kernel), List.mem_of_getElem? (i := 712) (by decide +kernel), List.mem_of_getElem? (i := 713) (by decide +kernel)⟩
def lw_privs_1 : List (MethodName × Nat) := [(⟨"ShadowWard", "permits", "(III)Z"⟩, 6), (⟨"ShadowWard$Memory", "goodBytes", "(I)I"⟩, 5), (⟨"ShadowWard", "tell", "(IIII)V"⟩, 6), (⟨"java/util/ArrayList", "add", "(Ljava/lang/Object;[Ljava/lang/Object;I)V"⟩, 3), (⟨"java/util/ArrayList", "grow", "()[Ljava/lang/Object;"⟩, 3), (⟨"java/util/ArrayList", "grow", "(I)[Ljava/lang/Object;"⟩, 3), (⟨"ShadowWard", "isCount", "(I)Z"⟩, 6), (⟨"java/lang/Throwable", "fillInStackTrace", "(I)Ljava/lang/Throwable;"⟩, 6), (⟨"ShadowWard$LostSearch", "markFound", "()V"⟩, 5), (⟨"ShadowWard$LostSearch", "findFrom", "(LShadowWard$Region;)V"⟩, 5), (⟨"ShadowWard$LostSearch", "ledToFrom", "(I)LShadowWard$Block;"⟩, 5), (⟨"ShadowWard$Heap", "chunkOwner", "(I)LShadowWard$Block;"⟩, 8), (⟨"ShadowWard$LostSearch", "markLedToByLost", "()V"⟩, 5), (⟨"ShadowWard$LostSearch", "markLedToFrom", "(LShadowWard$Block;)V"⟩, 5), (⟨"ShadowWard$Globals", "nextAddress", "()I"⟩, 2), (⟨"ShadowWard$Frames", "addVariable", "(LShadowWard$Frame;II)I"⟩, 2)]
theorem lw_r1 : ∀ q ∈ lw_privs_1, lw_okq q := List.forall_mem_cons.mpr ⟨lw_p0, List.forall_mem_cons.mpr ⟨lw_p1, List.forall_mem_cons.mpr ⟨lw_p2, List.forall_mem_cons.mpr ⟨lw_p3, List.forall_mem_cons.mpr ⟨lw_p4, List.forall_mem_cons.mpr ⟨lw_p5, List.forall_mem_cons.mpr ⟨lw_p6, List.forall_mem_cons.mpr ⟨lw_p7, List.forall_mem_cons.mpr ⟨lw_p8, List.forall_mem_cons.mpr ⟨lw_p9, List.forall_mem_cons.mpr ⟨lw_p10, List.forall_mem_cons.mpr ⟨lw_p11, List.forall_mem_cons.mpr ⟨lw_p12, List.forall_mem_cons.mpr ⟨lw_p13, List.forall_mem_cons.mpr ⟨lw_p14, List.forall_mem_cons.mpr ⟨lw_p15, fun _ h => absurd h List.not_mem_nil⟩⟩⟩⟩⟩⟩⟩⟩⟩⟩⟩⟩⟩⟩⟩⟩
theorem lw_p16 : lw_okq (⟨"ShadowWard$Frames", "paintFrame", "(LShadowWard$Frame;)V"⟩, 2) := ⟨⟨by decide +kernel, by decide +kernel⟩, List.mem_of_getElem? (i := 123) (by decide +kernel), List.mem_of_getElem? (i := 736) (by decide +kernel), List.mem_of_getElem? (i := 737) (by decide +kernel)⟩
theorem lw_p17 : lw_okq (⟨"java/util/ArrayList", "fastRemove", "([Ljava/lang/Object;I)V"⟩, 3) := ⟨⟨by decide +kernel, by decide +kernel⟩, List.mem_of_getElem? (i := 88) (by decide +kernel), List.mem_of_getElem? (i := 775) (by decide +kernel), List.mem_of_getElem? (i := 776) (by decide +kernel)⟩
theorem lw_p18 : lw_okq (⟨"ShadowWard", "variableOf", "(II)LShadowWard$Variable;"⟩, 6) := ⟨⟨by decide +kernel, by decide +kernel⟩, List.mem_of_getElem? (i := 30) (by decide +kernel), List.mem_of_getElem? (i := 788) (by decide +kernel), List.mem_of_getElem? (i := 789) (by decide +kernel)⟩
theorem lw_p19 : lw_okq (⟨"ShadowWard$Heap", "unitWithRoom", "(I)I"⟩, 8) := ⟨⟨by decide +kernel, by decide +kernel⟩, List.mem_of_getElem? (i := 140) (by decide +kernel), List.mem_of_getElem? (i := 846) (by decide +kernel), List.mem_of_getElem? (i := 847) (by decide +kernel)⟩
theorem lw_p20 : lw_okq (⟨"ShadowWard$Heap", "firstFreeRun", "(I)I"⟩, 8) := ⟨⟨by decide +kernel, by decide +kernel⟩, List.mem_of_getElem? (i := 140) (by decide +kernel), List.mem_of_getElem? (i := 850) (by decide +kernel), List.mem_of_getElem? (i := 851) (by decide +kernel)⟩
theorem lw_p21 : lw_okq (⟨"ShadowWard$Heap", "releaseOldest", "()V"⟩, 8) := ⟨⟨by decide +kernel, by decide +kernel⟩, List.mem_of_getElem? (i := 140) (by decide +kernel), List.mem_of_getElem? (i := 854) (by decide +kernel), List.mem_of_getElem? (i := 855) (by decide +kernel)⟩
theorem lw_p22 : lw_okq (⟨"ShadowWard$Heap", "setOwner", "(LShadowWard$Block;LShadowWard$Block;)V"⟩, 8) := ⟨⟨by decide +kernel, by decide +kernel⟩, List.mem_of_getElem? (i := 140) (by decide +kernel), List.mem_of_getElem? (i := 864) (by decide +kernel), List.mem_of_getElem? (i := 865) (by decide +kernel)⟩
theorem lw_p23 : lw_okq (⟨"ShadowWard", "blockToFree", "(II)LShadowWard$Block;"⟩, 6) := ⟨⟨by decide +kernel, by decide +kernel⟩, List.mem_of_getElem? (i := 30) (by decide +kernel), List.mem_of_getElem? (i := 921) (by decide +kernel), List.mem_of_getElem? (i := 922) (by decide +kernel)⟩
theorem lw_p24 : lw_okq (⟨"ShadowWardModel", "refuses", "(I)Z"⟩, 30) := ⟨⟨by decide +kernel, by decide +kernel⟩, List.mem_of_getElem? (i := 1063) (by decide +kernel), List.mem_of_getElem? (i := 1169) (by decide +kernel), List.mem_of_getElem? (i := 1170) (by decide +kernel)⟩
theorem lw_p25 : lw_okq (⟨"ShadowWardModel", "opens", "(II)V"⟩, 30) := ⟨⟨by decide +kernel, by decide +kernel⟩, List.mem_of_getElem? (i := 1063) (by decide +kernel), List.mem_of_getElem? (i := 1173) (by decide +kernel), List.mem_of_getElem? (i := 1174) (by decide +kernel)⟩
theorem lw_p26 : lw_okq (⟨"ShadowWardModel", "paint", "(III)V"⟩, 30) := ⟨⟨by decide +kernel, by decide +kernel⟩, List.mem_of_getElem? (i := 1063) (by decide +kernel), List.mem_of_getElem? (i := 1187) (by decide +kernel), List.mem_of_getElem? (i := 1188) (by decide +kernel)⟩
theorem lw_p27 : lw_okq (⟨"ShadowWardModel", "noVariable", "(II)Z"⟩, 30) := ⟨⟨by decide +kernel, by decide +kernel⟩, List.mem_of_getElem? (i := 1063) (by decide +kernel), List.mem_of_getElem? (i := 1199) (by decide +kernel), List.mem_of_getElem? (i := 1200) (by decide +kernel)⟩
theorem lw_p28 : lw_okq (⟨"ShadowWardModel", "given", "(III)I"⟩, 30) := ⟨⟨by decide +kernel, by decide +kernel⟩, List.mem_of_getElem? (i := 1063) (by decide +kernel), List.mem_of_getElem? (i := 1211) (by decide +kernel), List.mem_of_getElem? (i := 1212) (by decide +kernel)⟩
theorem lw_p29 : lw_okq (⟨"ShadowWardModel", "placeFor", "(I)I"⟩, 30) := ⟨⟨by decide +kernel, by decide +kernel⟩, List.mem_of_getElem? (i := 1063) (by decide +kernel), List.mem_of_getElem? (i := 1218) (by decide +kernel), List.mem_of_getElem? (i := 1219) (by decide +kernel)⟩
theorem lw_p30 : lw_okq (⟨"ShadowWardModel", "isFree", "(II)Z"⟩, 30) := ⟨⟨by decide +kernel, by decide +kernel⟩, List.mem_of_getElem? (i := 1063) (by decide +kernel), List.mem_of_getElem? (i := 1222) (by decide +kernel), List.mem_of_getElem? (i := 1223) (by decide +kernel)⟩
theorem lw_p31 : lw_okq (⟨"ShadowWardModel", "oldestLeaves", "()V"⟩, 30) := ⟨⟨by decide +kernel, by decide +kernel⟩, List.mem_of_getElem? (i := 1063) (by decide +kernel), List.mem_of_getElem? (i := 1226) (by decide +kernel), List.mem_of_getElem? (i := 1227) (by decide +kernel)⟩
def lw_privs_2 : List (MethodName × Nat) := [(⟨"ShadowWard$Frames", "paintFrame", "(LShadowWard$Frame;)V"⟩, 2), (⟨"java/util/ArrayList", "fastRemove", "([Ljava/lang/Object;I)V"⟩, 3), (⟨"ShadowWard", "variableOf", "(II)LShadowWard$Variable;"⟩, 6), (⟨"ShadowWard$Heap", "unitWithRoom", "(I)I"⟩, 8), (⟨"ShadowWard$Heap", "firstFreeRun", "(I)I"⟩, 8), (⟨"ShadowWard$Heap", "releaseOldest", "()V"⟩, 8), (⟨"ShadowWard$Heap", "setOwner", "(LShadowWard$Block;LShadowWard$Block;)V"⟩, 8), (⟨"ShadowWard", "blockToFree", "(II)LShadowWard$Block;"⟩, 6), (⟨"ShadowWardModel", "refuses", "(I)Z"⟩, 30), (⟨"ShadowWardModel", "opens", "(II)V"⟩, 30), (⟨"ShadowWardModel", "paint", "(III)V"⟩, 30), (⟨"ShadowWardModel", "noVariable", "(II)Z"⟩, 30), (⟨"ShadowWardModel", "given", "(III)I"⟩, 30), (⟨"ShadowWardModel", "placeFor", "(I)I"⟩, 30), (⟨"ShadowWardModel", "isFree", "(II)Z"⟩, 30), (⟨"ShadowWardModel", "oldestLeaves", "()V"⟩, 30)]
theorem lw_r2 : ∀ q ∈ lw_privs_2, lw_okq q := List.forall_mem_cons.mpr ⟨lw_p16, List.forall_mem_cons.mpr ⟨lw_p17, List.forall_mem_cons.mpr ⟨lw_p18, List.forall_mem_cons.mpr ⟨lw_p19, List.forall_mem_cons.mpr ⟨lw_p20, List.forall_mem_cons.mpr ⟨lw_p21, List.forall_mem_cons.mpr ⟨lw_p22, List.forall_mem_cons.mpr ⟨lw_p23, List.forall_mem_cons.mpr ⟨lw_p24, List.forall_mem_cons.mpr ⟨lw_p25, List.forall_mem_cons.mpr ⟨lw_p26, List.forall_mem_cons.mpr ⟨lw_p27, List.forall_mem_cons.mpr ⟨lw_p28, List.forall_mem_cons.mpr ⟨lw_p29, List.forall_mem_cons.mpr ⟨lw_p30, List.forall_mem_cons.mpr ⟨lw_p31, fun _ h => absurd h List.not_mem_nil⟩⟩⟩⟩⟩⟩⟩⟩⟩⟩⟩⟩⟩⟩⟩⟩
theorem lw_p32 : lw_okq (⟨"ShadowWardModel", "mayGo", "(II)I"⟩, 30) := ⟨⟨by decide +kernel, by decide +kernel⟩, List.mem_of_getElem? (i := 1063) (by decide +kernel), List.mem_of_getElem? (i := 1234) (by decide +kernel), List.mem_of_getElem? (i := 1235) (by decide +kernel)⟩
theorem lw_p33 : lw_okq (⟨"ShadowWardModel", "blockIn", "(II)I"⟩, 30) := ⟨⟨by decide +kernel, by decide +kernel⟩, List.mem_of_getElem? (i := 1063) (by decide +kernel), List.mem_of_getElem? (i := 1238) (by decide +kernel), List.mem_of_getElem? (i := 1239) (by decide +kernel)⟩
theorem lw_p34 : lw_okq (⟨"ShadowWardModel", "tells", "(IJIZ)V"⟩, 30) := ⟨⟨by decide +kernel, by decide +kernel⟩, List.mem_of_getElem? (i := 1063) (by decide +kernel), List.mem_of_getElem? (i := 1242) (by decide +kernel), List.mem_of_getElem? (i := 1243) (by decide +kernel)⟩
theorem lw_p35 : lw_okq (⟨"ShadowWardModel", "nearer", "(IJIIII)V"⟩, 30) := ⟨⟨by decide +kernel, by decide +kernel⟩, List.mem_of_getElem? (i := 1063) (by decide +kernel), List.mem_of_getElem? (i := 1246) (by decide +kernel), List.mem_of_getElem? (i := 1247) (by decide +kernel)⟩
theorem lw_p36 : lw_okq (⟨"ShadowWardModel", "regionAt", "(II)I"⟩, 30) := ⟨⟨by decide +kernel, by decide +kernel⟩, List.mem_of_getElem? (i := 1063) (by decide +kernel), List.mem_of_getElem? (i := 1253) (by decide +kernel), List.mem_of_getElem? (i := 1254) (by decide +kernel)⟩
theorem lw_p37 : lw_okq (⟨"ShadowWardModel", "goes", "(II)V"⟩, 30) := ⟨⟨by decide +kernel, by decide +kernel⟩, List.mem_of_getElem? (i := 1063) (by decide +kernel), List.mem_of_getElem? (i := 1257) (by decide +kernel), List.mem_of_getElem? (i := 1258) (by decide +kernel)⟩
theorem lw_p38 : lw_okq (⟨"ShadowWardModel", "heldBytes", "()I"⟩, 30) := ⟨⟨by decide +kernel, by decide +kernel⟩, List.mem_of_getElem? (i := 1063) (by decide +kernel), List.mem_of_getElem? (i := 1261) (by decide +kernel), List.mem_of_getElem? (i := 1262) (by decide +kernel)⟩
theorem lw_p39 : lw_okq (⟨"ShadowWardModel", "right", "(JIIIZ)Z"⟩, 30) := ⟨⟨by decide +kernel, by decide +kernel⟩, List.mem_of_getElem? (i := 1063) (by decide +kernel), List.mem_of_getElem? (i := 1273) (by decide +kernel), List.mem_of_getElem? (i := 1274) (by decide +kernel)⟩
theorem lw_p40 : lw_okq (⟨"ShadowWardModel", "wrong", "(J)I"⟩, 30) := ⟨⟨by decide +kernel, by decide +kernel⟩, List.mem_of_getElem? (i := 1063) (by decide +kernel), List.mem_of_getElem? (i := 1277) (by decide +kernel), List.mem_of_getElem? (i := 1278) (by decide +kernel)⟩
theorem lw_p41 : lw_okq (⟨"ShadowWardModel", "noAmount", "(I)Z"⟩, 30) := ⟨⟨by decide +kernel, by decide +kernel⟩, List.mem_of_getElem? (i := 1063) (by decide +kernel), List.mem_of_getElem? (i := 1290) (by decide +kernel), List.mem_of_getElem? (i := 1291) (by decide +kernel)⟩
theorem lw_p42 : lw_okq (⟨"ShadowWardModel", "copies", "(IIIZ)Z"⟩, 30) := ⟨⟨by decide +kernel, by decide +kernel⟩, List.mem_of_getElem? (i := 1063) (by decide +kernel), List.mem_of_getElem? (i := 1298) (by decide +kernel), List.mem_of_getElem? (i := 1299) (by decide +kernel)⟩
theorem lw_p43 : lw_okq (⟨"ShadowWardModel", "lengthOf", "(I)I"⟩, 30) := ⟨⟨by decide +kernel, by decide +kernel⟩, List.mem_of_getElem? (i := 1063) (by decide +kernel), List.mem_of_getElem? (i := 1306) (by decide +kernel), List.mem_of_getElem? (i := 1307) (by decide +kernel)⟩
theorem lw_p44 : lw_okq (⟨"ShadowWardModel", "change", "(IIII)I"⟩, 30) := ⟨⟨by decide +kernel, by decide +kernel⟩, List.mem_of_getElem? (i := 1063) (by decide +kernel), List.mem_of_getElem? (i := 1322) (by decide +kernel), List.mem_of_getElem? (i := 1323) (by decide +kernel)⟩
theorem lw_p45 : lw_okq (⟨"ShadowWardModel", "walk", "()V"⟩, 30) := ⟨⟨by decide +kernel, by decide +kernel⟩, List.mem_of_getElem? (i := 1063) (by decide +kernel), List.mem_of_getElem? (i := 1354) (by decide +kernel), List.mem_of_getElem? (i := 1355) (by decide +kernel)⟩
theorem lw_p46 : lw_okq (⟨"ShadowWardModel", "isRooted", "(I)Z"⟩, 30) := ⟨⟨by decide +kernel, by decide +kernel⟩, List.mem_of_getElem? (i := 1063) (by decide +kernel), List.mem_of_getElem? (i := 1358) (by decide +kernel), List.mem_of_getElem? (i := 1359) (by decide +kernel)⟩
theorem lw_p47 : lw_okq (⟨"ShadowWardModel", "leads", "(III)Z"⟩, 30) := ⟨⟨by decide +kernel, by decide +kernel⟩, List.mem_of_getElem? (i := 1063) (by decide +kernel), List.mem_of_getElem? (i := 1362) (by decide +kernel), List.mem_of_getElem? (i := 1363) (by decide +kernel)⟩
def lw_privs_3 : List (MethodName × Nat) := [(⟨"ShadowWardModel", "mayGo", "(II)I"⟩, 30), (⟨"ShadowWardModel", "blockIn", "(II)I"⟩, 30), (⟨"ShadowWardModel", "tells", "(IJIZ)V"⟩, 30), (⟨"ShadowWardModel", "nearer", "(IJIIII)V"⟩, 30), (⟨"ShadowWardModel", "regionAt", "(II)I"⟩, 30), (⟨"ShadowWardModel", "goes", "(II)V"⟩, 30), (⟨"ShadowWardModel", "heldBytes", "()I"⟩, 30), (⟨"ShadowWardModel", "right", "(JIIIZ)Z"⟩, 30), (⟨"ShadowWardModel", "wrong", "(J)I"⟩, 30), (⟨"ShadowWardModel", "noAmount", "(I)Z"⟩, 30), (⟨"ShadowWardModel", "copies", "(IIIZ)Z"⟩, 30), (⟨"ShadowWardModel", "lengthOf", "(I)I"⟩, 30), (⟨"ShadowWardModel", "change", "(IIII)I"⟩, 30), (⟨"ShadowWardModel", "walk", "()V"⟩, 30), (⟨"ShadowWardModel", "isRooted", "(I)Z"⟩, 30), (⟨"ShadowWardModel", "leads", "(III)Z"⟩, 30)]
theorem lw_r3 : ∀ q ∈ lw_privs_3, lw_okq q := List.forall_mem_cons.mpr ⟨lw_p32, List.forall_mem_cons.mpr ⟨lw_p33, List.forall_mem_cons.mpr ⟨lw_p34, List.forall_mem_cons.mpr ⟨lw_p35, List.forall_mem_cons.mpr ⟨lw_p36, List.forall_mem_cons.mpr ⟨lw_p37, List.forall_mem_cons.mpr ⟨lw_p38, List.forall_mem_cons.mpr ⟨lw_p39, List.forall_mem_cons.mpr ⟨lw_p40, List.forall_mem_cons.mpr ⟨lw_p41, List.forall_mem_cons.mpr ⟨lw_p42, List.forall_mem_cons.mpr ⟨lw_p43, List.forall_mem_cons.mpr ⟨lw_p44, List.forall_mem_cons.mpr ⟨lw_p45, List.forall_mem_cons.mpr ⟨lw_p46, List.forall_mem_cons.mpr ⟨lw_p47, fun _ h => absurd h List.not_mem_nil⟩⟩⟩⟩⟩⟩⟩⟩⟩⟩⟩⟩⟩⟩⟩⟩
theorem lw_p48 : lw_okq (⟨"ShadowWardModel", "word", "(I)J"⟩, 30) := ⟨⟨by decide +kernel, by decide +kernel⟩, List.mem_of_getElem? (i := 1063) (by decide +kernel), List.mem_of_getElem? (i := 1366) (by decide +kernel), List.mem_of_getElem? (i := 1367) (by decide +kernel)⟩
theorem lw_p49 : lw_okq (⟨"ShadowWardModel", "isLost", "(I)Z"⟩, 30) := ⟨⟨by decide +kernel, by decide +kernel⟩, List.mem_of_getElem? (i := 1063) (by decide +kernel), List.mem_of_getElem? (i := 1371) (by decide +kernel), List.mem_of_getElem? (i := 1372) (by decide +kernel)⟩
theorem lw_p50 : lw_okq (⟨"ShadowWardModel", "isAlone", "(I)Z"⟩, 30) := ⟨⟨by decide +kernel, by decide +kernel⟩, List.mem_of_getElem? (i := 1063) (by decide +kernel), List.mem_of_getElem? (i := 1375) (by decide +kernel), List.mem_of_getElem? (i := 1376) (by decide +kernel)⟩
theorem lw_p51 : lw_okq (⟨"ShadowWardModel", "good", "()I"⟩, 30) := ⟨⟨by decide +kernel, by decide +kernel⟩, List.mem_of_getElem? (i := 1063) (by decide +kernel), List.mem_of_getElem? (i := 1383) (by decide +kernel), List.mem_of_getElem? (i := 1384) (by decide +kernel)⟩
def lw_privs_4 : List (MethodName × Nat) := [(⟨"ShadowWardModel", "word", "(I)J"⟩, 30), (⟨"ShadowWardModel", "isLost", "(I)Z"⟩, 30), (⟨"ShadowWardModel", "isAlone", "(I)Z"⟩, 30), (⟨"ShadowWardModel", "good", "()I"⟩, 30)]
theorem lw_r4 : ∀ q ∈ lw_privs_4, lw_okq q := List.forall_mem_cons.mpr ⟨lw_p48, List.forall_mem_cons.mpr ⟨lw_p49, List.forall_mem_cons.mpr ⟨lw_p50, List.forall_mem_cons.mpr ⟨lw_p51, fun _ h => absurd h List.not_mem_nil⟩⟩⟩⟩
def lw_privs : List (MethodName × Nat) := lw_privs_1 ++ (lw_privs_2 ++ (lw_privs_3 ++ (lw_privs_4)))
def lw_tbl : List Cond := k2_sels lw_privs ++ tables_1
theorem lw_privs_ok : ∀ q ∈ lw_privs, lw_okq q := by
  show ∀ q ∈ lw_privs_1 ++ (lw_privs_2 ++ (lw_privs_3 ++ (lw_privs_4))), lw_okq q
  exact List.forall_mem_append.mpr ⟨lw_r1, List.forall_mem_append.mpr ⟨lw_r2, List.forall_mem_append.mpr ⟨lw_r3, lw_r4⟩⟩⟩
-- ===== end of PART A; then your names; then what follows =====
end
section
/-! ===== BEGIN words of one list among another's, by their places ===== -/
theorem goodIn_r {big : List Cond} (ws : List Cond) (ps : List Nat) (hp : ws = ps.filterMap (fun i => big[i]?)) (h : ws.all goodWord = true) : GoodIn big ws := by
  intro w hw
  have h1 := List.all_eq_true.mp h w hw
  rw [hp] at hw
  obtain ⟨i, -, hi⟩ := List.mem_filterMap.mp hw
  have hm : w ∈ big := by first | exact List.mem_of_getElem? hi | exact List.getElem?_mem hi
  exact ⟨hm, good_of_word h1⟩
theorem goodIn_app {big a b : List Cond} (ha : GoodIn big a) (hb : GoodIn big b) : GoodIn big (a ++ b) := fun w h => (List.mem_append.mp h).elim (ha w) (hb w)
theorem goodIn_ca {big a b : List Cond} {c : Cond} (ha : GoodIn big (c :: a)) (hb : GoodIn big b) : GoodIn big (c :: (a ++ b)) := fun w h => (List.mem_cons.mp h).elim (fun e => ha w (List.mem_cons.mpr (Or.inl e))) (fun h => (List.mem_append.mp h).elim (fun h => ha w (List.mem_cons.mpr (Or.inr h))) (hb w))
theorem goodIn_sub {big ws : List Cond} (hm : ∀ w ∈ ws, w ∈ big) (h : ws.all goodWord = true) : GoodIn big ws := fun w hw => ⟨hm w hw, good_of_word (List.all_eq_true.mp h w hw)⟩
/-! ===== END ===== -/

/-! ===== BEGIN exceptions that leave a method, and their catching by the caller (launches without stack traces) ===== -/
section VXA
/-! The laws vx_back, vx_callV, vx_callS, vx_callSW, vx_throw0, vx_throwS follow proofs of the library, with one case more: JvmDerived/Free/Laws.lean (Back.of_free), Shelf42/LK1.lean (callV, callS), Shelf/KitTraced.lean (throwNew0V, throwNewS). -/
/-- where a method has thrown q: the class by its name, the cell, what was written, the world -/
def vx_T (XC : String → State → State → Prop) (st : State) (q : Addr) (t : State) (mc ms : Nat) (free : Addr → Prop) : Prop :=
  ∃ (E : String) (ce : Cell) (L : List Loc), XC E st t ∧ t.heap[q]? = some ce ∧ ce.vm = .none ∧ st.vm.findClass E = some ce.cls ∧ st.WarmedH t.vm ∧ st.sameButNew ({ t with vm := st.vm } : State) L mc ms ∧ ∀ z ∈ L, free z.base
def vx_Q (Qc : Array Value → State → Outcome → State → Prop) (XC : String → State → State → Prop) (mc ms : Nat) (free : Addr → Prop) : Array Value → State → Outcome → State → Prop := fun a st o t =>
  (Qc a st o t ∧ ∃ L, FrameEnd st o t L mc ms ∧ ∀ q ∈ L, free q.base) ∨ ∃ q, o = .threw q ∧ vx_T XC st q t mc ms free
/-- a callee that returns or throws -/
def vx_Met (l : Launch) (y : MethodName) (ws : List Cond) (rm : Room) (Pc : Array Value → State → Prop) (Qc : Array Value → State → Outcome → State → Prop) (XC : String → State → State → Prop) (mc ms : Nat) (free : Addr → Prop) : Prop :=
  MetFree l y (headSpec ws rm) Pc (fun _ _ _ _ _ => True) (vx_Q Qc XC mc ms free)
def vx_Post (XC : String → State → State → Prop) (mc ms : Nat) (free : Addr → Prop) : Pt → Array Value → Addr → Pt → Prop := fun A a q B =>
  ∃ (g : JFrame) (mk : MethodId) (t : State) (L : List Loc) (E : String) (ce : Cell), B.U.heap = t.heap ∧ B.U.vm = t.vm ∧ XC E (A.U.calling g mk a) t ∧ t.heap[q]? = some ce ∧ ce.vm = .none ∧ A.U.vm.findClass E = some ce.cls ∧ B.locs = A.locs ++ L ∧ (∀ z ∈ L, free z.base) ∧ B.cells = A.cells + mc ∧ B.slots = A.slots + ms
def vx_Back (l : Launch) (R : Room) (p : Program) (e : Env) (below : List Frame) (s : State) (sargs : Array Value) (y : MethodName) (len W9 : Nat)
    (Pre : Pt → Array Value → Prop) (Post : Pt → Array Value → Option Value → Pt → Prop) (PostX : Pt → Array Value → Addr → Pt → Prop) : Prop :=
  ∀ (m : MethodId) (meth : Method) (c : Code) (A : Pt) (g : JFrame) (ig : Instr) (mk : MethodId) (a : Array Value),
    Stand p l e R s m sargs below meth c A.U A.locs A.cells A.slots → g.method = m → g.locals.size = c.maxLocals → decode c.code g.pc = .ok (ig, len) →
    2 * g.monitorRoom + (g.stack.map fun v => v.category).sum ≤ W9 → A.U.methodNamed? y = some mk → Pre A a →
    (∃ (v : Option Value) (B : Pt), Stand p l e R s m sargs below meth c B.U B.locs B.cells B.slots ∧ Post A a v B ∧
      Steps p.tables e below (doInvoke e (A.U.setTop g) [] mk a).1 (B.U.setTop { g with pc := g.pc + len, stack := v.toList ++ g.stack })) ∨
    (∃ (q : Addr) (B : Pt), Stand p l e R s m sargs below meth c B.U B.locs B.cells B.slots ∧ PostX A a q B ∧
      Steps p.tables e below (doInvoke e (A.U.setTop g) [] mk a).1 ((B.U.setTop g).pushFrame (.throwing q)))
section Payer
variable {l : Launch} {R : Room} {p : Program} {e : Env} {below : List Frame} {s : State} {sargs : Array Value} {y : MethodName} {len W9 : Nat}
theorem vx_back {ws : List Cond} {rm : Room} {Pc : Array Value → State → Prop} {Qc : Array Value → State → Outcome → State → Prop} {XC : String → State → State → Prop} {mc ms : Nat} {free : Addr → Prop} {bytes : ByteArray} {maxL : Nat} {ret : Option FieldType}
    (hM : vx_Met l y ws rm Pc Qc XC mc ms free) (hblind : FrameBlind Pc) (hrc : rm.cells = mc) (hrs : rm.slots = ms)
    (hframes : rm.frames + 1 ≤ R.frames) (hlocals : W9 + (maxL + 11) + rm.locals ≤ R.locals)
    (hws : ∀ w ∈ ws, ∀ a' U, s.WarmedH U.vm → w.before a' U = true) (hcode : Cond.code y bytes maxL ret ∈ ws) (hinit : ∀ a' U, s.WarmedH U.vm → (Cond.initialized y.cls).before a' U = true) :
    vx_Back l R p e below s sargs y len W9 (PreOf R mc ms Pc) (PostOf Qc mc ms free) (vx_Post XC mc ms free) := by
  intro m meth c A g ig mk a X hg hsize hdg hW hn hp
  have h1 : (headSpec ws rm).pre.before a A.U = true := atoms_intro fun w hw => hws w hw _ _ X.warmed
  have h2 : (Cond.code y bytes maxL ret).before a A.U = true := hws _ hcode _ _ X.warmed
  have h3 : (Cond.initialized y.cls).before a A.U = true := hinit _ _ X.warmed
  have h4 : A.cells + (headSpec ws rm).room.cells ≤ R.cells := by rw [show (headSpec ws rm).room.cells = mc from hrc]; exact hp.1
  have h5 : A.slots + (headSpec ws rm).room.slots ≤ R.slots := by rw [show (headSpec ws rm).room.slots = ms from hrs]; exact hp.2.1
  have hPc : Pc a (A.U.calling g mk a) := hblind _ _ _ _ hp.2.2
  obtain ⟨U, Ls, c0, s0⟩ := A
  dsimp only [Pt.U, Pt.locs, Pt.cells, Pt.slots] at h1 h2 h3 h4 h5 X hn hPc ⊢
  obtain ⟨methY, cY, hmY, hcY, -, hlY, -, -, -, -⟩ := Cond.code_spec hn h2
  obtain ⟨kY, hkY, -⟩ := className_of_methodNamed hn
  have hinitY : kY.init = .initialized := Cond.initialized_spec (findClass_of_methodNamed hn) hkY h3
  have h : At U g.method c below := by rw [hg]; exact X.here
  have hlocals9 : W9 + (maxL + 11) + (headSpec ws rm).room.locals ≤ R.locals := hlocals
  have happ : (headSpec ws rm).appliesLoose y e.platform (U.calling g mk a) = true :=
    Spec.appliesLoose_calling (g := g) h hdg hn hkY hinitY
      (X.room_calling (g := g) (R' := (headSpec ws rm).room) hsize hmY hcY hframes (by rw [hlY]; omega) h4 h5) h1
  obtain ⟨mid, hmid⟩ := h.above
  have hfr : (U.setTop g).frames = (.java g :: mid) ++ below := by rw [State.frames_setTop' g h.top, hmid]; rfl
  obtain ⟨o, s₂, hsteps, -, hend, hq⟩ := Steps.callFree hM p X.admits X.cas X.clock (acts := []) hfr happ hPc trivial
  have hq' : vx_Q Qc XC mc ms free a (U.calling g mk a) o s₂ := hq
  rw [State.frames_setTop' g h.top] at hend
  obtain ⟨g₀, hg0⟩ := Option.isSome_iff_exists.mp h.top
  obtain ⟨r, hr⟩ := State.topJava?_eq_some.mp hg0
  have hr' : (({ U with heap := s₂.heap, slotsUsed := s₂.slotsUsed } : State).setVm s₂.vm).frames = .java g₀ :: r := hr
  rcases hq' with ⟨hqc, L, hfe, hL⟩ | ⟨q, rfl, E, ce, L, hx, hce, hcv, hcl, hW₂, hsm, hL⟩
  · obtain ⟨⟨v, rfl⟩, hW₂, e2, q2, q3, q4, q5, q6⟩ := id hfe
    have e3 : s₂ = ({ (U.calling g mk a).setFrames s₂.frames with heap := s₂.heap, slotsUsed := s₂.slotsUsed } : State).setVm s₂.vm := by
      have : s₂ = ({ s₂ with vm := (U.calling g mk a).vm } : State).setVm s₂.vm := rfl
      rw [e2] at this
      exact this
    obtain ⟨c₂, i₂, len₂, hc₂, hd₂, hf₂⟩ := hend
    have hW' : U.WarmedH s₂.vm := hW₂
    have hcc : c₂ = c := by
      have h1 : s₂.code? g.method = U.code? g.method := by
        rw [State.code?_eq, State.code?_eq, hW'.alike.method?]
      exact Option.some.inj (hc₂.symm.trans (h1.trans h.code))
    subst hcc
    have hlen : len₂ = len := by rw [hdg] at hd₂; cases hd₂; rfl
    subst hlen
    have hs₂ : s₂ = (({ U with heap := s₂.heap, slotsUsed := s₂.slotsUsed } : State).setVm s₂.vm).setTop { g with pc := g.pc + len₂, stack := v.toList ++ g.stack } := by
      refine e3.trans ?_
      rw [hf₂, State.calling_eq h.top, State.setFrames_setFrames, State.setTop_of_frames _ hr', hr]
      rfl
    have hsame : U.sameButNew ({ U with heap := s₂.heap, slotsUsed := s₂.slotsUsed } : State) L mc ms := by
      refine ⟨?_, q2, q3, q4, q5, q6⟩
      obtain ⟨t, ht, -⟩ := State.frames_cons hr
      show ({ U with heap := s₂.heap, slotsUsed := s₂.slotsUsed } : State) = { U.setFrames U.frames with heap := s₂.heap, slotsUsed := s₂.slotsUsed }
      rw [State.setFrames_self ht]
    subst hg
    refine Or.inl ⟨v, ⟨(({ U with heap := s₂.heap, slotsUsed := s₂.slotsUsed } : State).setVm s₂.vm), Ls ++ L, c0 + mc, s0 + ms⟩,
      ⟨X.admits, X.cas, X.clock, X.frames, X.room, X.hears, X.method, X.code, (X.here.setHeapUsed s₂.heap s₂.slotsUsed).setVm hW'.alike, X.tail, State.WarmedH.trans X.warmed hW', X.limits, X.bytes, X.same.trans (hsame.setVm s.vm)⟩,
      ⟨g, mk, s₂, L, rfl, rfl, hqc, rfl, hL, rfl, rfl⟩, ?_⟩
    show Steps p.tables e below _ ((({ U with heap := s₂.heap, slotsUsed := s₂.slotsUsed } : State).setVm s₂.vm).setTop { g with pc := g.pc + len₂, stack := v.toList ++ g.stack })
    rw [← hs₂]
    exact hsteps
  · obtain ⟨e2, q2, q3, q4, q5, q6⟩ := id hsm
    have e3 : s₂ = ({ (U.calling g mk a).setFrames s₂.frames with heap := s₂.heap, slotsUsed := s₂.slotsUsed } : State).setVm s₂.vm := by
      have : s₂ = ({ s₂ with vm := (U.calling g mk a).vm } : State).setVm s₂.vm := rfl
      rw [e2] at this
      exact this
    have hf₂ : s₂.frames = .throwing q :: .java g :: U.frames.tail := hend
    have hW' : U.WarmedH s₂.vm := hW₂
    have hs₂ : s₂ = ((({ U with heap := s₂.heap, slotsUsed := s₂.slotsUsed } : State).setVm s₂.vm).setTop g).pushFrame (.throwing q) := by
      refine e3.trans ?_
      rw [hf₂, State.calling_eq h.top, State.setFrames_setFrames, State.pushFrame, State.frames_setTop _ hr', State.setTop_of_frames _ hr', State.setFrames_setFrames, hr]
      rfl
    have hsame : U.sameButNew ({ U with heap := s₂.heap, slotsUsed := s₂.slotsUsed } : State) L mc ms := by
      refine ⟨?_, q2, q3, q4, q5, q6⟩
      obtain ⟨t, ht, -⟩ := State.frames_cons hr
      show ({ U with heap := s₂.heap, slotsUsed := s₂.slotsUsed } : State) = { U.setFrames U.frames with heap := s₂.heap, slotsUsed := s₂.slotsUsed }
      rw [State.setFrames_self ht]
    subst hg
    refine Or.inr ⟨q, ⟨(({ U with heap := s₂.heap, slotsUsed := s₂.slotsUsed } : State).setVm s₂.vm), Ls ++ L, c0 + mc, s0 + ms⟩,
      ⟨X.admits, X.cas, X.clock, X.frames, X.room, X.hears, X.method, X.code, (X.here.setHeapUsed s₂.heap s₂.slotsUsed).setVm hW'.alike, X.tail, State.WarmedH.trans X.warmed hW', X.limits, X.bytes, X.same.trans (hsame.setVm s.vm)⟩,
      ⟨g, mk, s₂, L, E, ce, rfl, rfl, hx, hce, hcv, hcl, rfl, hL, rfl, rfl⟩, ?_⟩
    show Steps p.tables e below _ (((({ U with heap := s₂.heap, slotsUsed := s₂.slotsUsed } : State).setVm s₂.vm).setTop g).pushFrame (.throwing q))
    rw [← hs₂]
    exact hsteps
end Payer
section Calls
variable {p : Program} {l : Launch} {e : Env} {R : Room} {s : State} {m : MethodId} {args : Array Value} {below : List Frame} {meth : Method} {c : Code} {T : State} {locs : List Loc} {cells slots : Nat}
theorem vx_callV (X : Stand p l e R s m args below meth c T locs cells slots) (hexec : p.tables.exec = Jvm.exec) {own C : String} {index : Nat} {y : MethodName} {bytes : ByteArray} {maxL : Nat} {ret : Option FieldType}
    (hown : s.vm.findClass own = some m.cls) (hlink : (Cond.methodLink own index y).before args s = true) (hinst : (Cond.instanceMethod y).before args s = true) (hsel : (Cond.selects C y y).before args s = true)
    (hcode : (Cond.code y bytes maxL ret).before args s = true) (hy : y.cls ≠ "java/lang/invoke/MethodHandle" ∧ y.cls ≠ "java/lang/invoke/VarHandle")
    {W9 : Nat} {Pre : Pt → Array Value → Prop} {Post : Pt → Array Value → Option Value → Pt → Prop} {PostX : Pt → Array Value → Addr → Pt → Prop} (hK : vx_Back l R p e below s args y 3 W9 Pre Post PostX)
    {b : Addr} {cellB : Cell} (hcell : T.heap[b]? = some cellB) (hobj : cellB.vm.isStatics = false) (hcls : s.vm.findClass C = some cellB.cls)
    {g : JFrame} (hg : g.method = m) (hsize : g.locals.size = c.maxLocals) {argsL rest : List Value} (hlen : ∀ sig, parseMethodDescriptor y.desc = some sig → argsL.length = sig.parameters.length)
    (hstack : g.stack = argsL.reverse ++ .ref b :: rest) (hW : 2 * g.monitorRoom + (rest.map fun v => v.category).sum ≤ W9) (hdg : decode c.code g.pc = .ok (.invokevirtual index, 3))
    (hpre : ∀ vm₁, s.WarmedH vm₁ → Pre ⟨T.setVm vm₁, locs, cells, slots⟩ (Value.ref b :: argsL).toArray) :
    (∃ (v : Option Value) (vm₁ : Vm) (B : Pt), s.WarmedH vm₁ ∧ Stand p l e R s m args below meth c B.U B.locs B.cells B.slots ∧ Post ⟨T.setVm vm₁, locs, cells, slots⟩ (Value.ref b :: argsL).toArray v B ∧
      ∀ target, Steps p.tables e below (B.U.setTop { g with pc := g.pc + 3, stack := v.toList ++ rest }) target → Steps p.tables e below (T.setTop g) target) ∨
    (∃ (q : Addr) (vm₁ : Vm) (B : Pt), s.WarmedH vm₁ ∧ Stand p l e R s m args below meth c B.U B.locs B.cells B.slots ∧ PostX ⟨T.setVm vm₁, locs, cells, slots⟩ (Value.ref b :: argsL).toArray q B ∧
      Steps p.tables e below (T.setTop g) ((B.U.setTop { g with stack := rest }).pushFrame (.throwing q))) := by
  obtain ⟨mk, methM, hnamed, hmethM, hstM, habM⟩ := Cond.instanceMethod_spec hinst
  obtain ⟨methM', cM, hmethM', -, -, -, -, -, -, hsigM⟩ := Cond.code_spec hnamed hcode
  cases hmethM.symm.trans hmethM'
  obtain ⟨c2, r2, m2, q1, q2, q3, q4, kP, hkP, hkPi⟩ := Cond.selects_spec hsel
  cases hcls.symm.trans q1
  cases (State.methodFound?_of_named hnamed hy).symm.trans q2
  cases hnamed.symm.trans q3
  have hselP : selectMethod e.platform s.vm cellB.cls mk = .method mk := by rw [Launch.admits_selectMethod X.admits]; exact q4
  obtain ⟨vm₁, X₁, hstep₁⟩ := X.invokevirtual hexec hown hlink hnamed hmethM hstM hkP hkPi hy (a := b) (cell := cellB) hcell
    (fun z h => by rw [h] at hobj; cases hobj) hselP hmethM habM hkP hkPi (g := g) hg (argsL := argsL) (rest := rest) (hlen _ hsigM) hstack hdg
  rcases hK m meth c ⟨T.setVm vm₁, locs, cells, slots⟩ { g with stack := rest } (.invokevirtual index) mk (Value.ref b :: argsL).toArray X₁ hg hsize hdg hW (X₁.named hnamed) (hpre vm₁ X₁.warmed) with ⟨v, B, X', hpost, hsteps⟩ | ⟨q, B, X', hpost, hsteps⟩
  · exact Or.inl ⟨v, vm₁, B, X₁.warmed, X', hpost, fun target h => hstep₁ _ fun acts => by rw [doInvoke_state]; exact hsteps.trans h⟩
  · exact Or.inr ⟨q, vm₁, B, X₁.warmed, X', hpost, hstep₁ _ fun acts => by rw [doInvoke_state]; exact hsteps⟩
theorem vx_callS (X : Stand p l e R s m args below meth c T locs cells slots) (hexec : p.tables.exec = Jvm.exec) {own : String} {index : Nat} {y : MethodName} {bytes : ByteArray} {maxL : Nat} {ret : Option FieldType}
    (hown : s.vm.findClass own = some m.cls) (hlink : (Cond.methodLink own index y).before args s = true) (hstat : (Cond.static y).before args s = true) (hinit : (Cond.initialized y.cls).before args s = true)
    (hcode : (Cond.code y bytes maxL ret).before args s = true) (hy : y.cls ≠ "java/lang/invoke/MethodHandle" ∧ y.cls ≠ "java/lang/invoke/VarHandle")
    {W9 : Nat} {Pre : Pt → Array Value → Prop} {Post : Pt → Array Value → Option Value → Pt → Prop} {PostX : Pt → Array Value → Addr → Pt → Prop} (hK : vx_Back l R p e below s args y 3 W9 Pre Post PostX)
    {g : JFrame} (hg : g.method = m) (hsize : g.locals.size = c.maxLocals) {argsL rest : List Value} (hlen : ∀ sig, parseMethodDescriptor y.desc = some sig → argsL.length = sig.parameters.length)
    (hstack : g.stack = argsL.reverse ++ rest) (hW : 2 * g.monitorRoom + (rest.map fun v => v.category).sum ≤ W9) (hdg : decode c.code g.pc = .ok (.invokestatic index, 3))
    (hpre : ∀ vm₁, s.WarmedH vm₁ → Pre ⟨T.setVm vm₁, locs, cells, slots⟩ argsL.toArray) :
    (∃ (v : Option Value) (vm₁ : Vm) (B : Pt), s.WarmedH vm₁ ∧ Stand p l e R s m args below meth c B.U B.locs B.cells B.slots ∧ Post ⟨T.setVm vm₁, locs, cells, slots⟩ argsL.toArray v B ∧
      ∀ target, Steps p.tables e below (B.U.setTop { g with pc := g.pc + 3, stack := v.toList ++ rest }) target → Steps p.tables e below (T.setTop g) target) ∨
    (∃ (q : Addr) (vm₁ : Vm) (B : Pt), s.WarmedH vm₁ ∧ Stand p l e R s m args below meth c B.U B.locs B.cells B.slots ∧ PostX ⟨T.setVm vm₁, locs, cells, slots⟩ argsL.toArray q B ∧
      Steps p.tables e below (T.setTop g) ((B.U.setTop { g with stack := rest }).pushFrame (.throwing q))) := by
  obtain ⟨mk, hnamed⟩ := Cond.code_named hcode
  obtain ⟨methM, cM, hmethM, -, -, -, -, -, -, hsigM⟩ := Cond.code_spec hnamed hcode
  have hstatic : methM.isStatic = true := Cond.static_spec hnamed hmethM hstat
  obtain ⟨kP, hkP, -⟩ := className_of_methodNamed hnamed
  have hinitP : kP.init = .initialized := Cond.initialized_spec (findClass_of_methodNamed hnamed) hkP hinit
  obtain ⟨vm₁, X₁, hstep₁⟩ := X.invokestatic hexec hown hlink hnamed hmethM hstatic hkP hinitP hy (g := g) hg (argsL := argsL) (rest := rest) (hlen _ hsigM) hstack hdg
  rcases hK m meth c ⟨T.setVm vm₁, locs, cells, slots⟩ { g with stack := rest } (.invokestatic index) mk argsL.toArray X₁ hg hsize hdg hW (X₁.named hnamed) (hpre vm₁ X₁.warmed) with ⟨v, B, X', hpost, hsteps⟩ | ⟨q, B, X', hpost, hsteps⟩
  · exact Or.inl ⟨v, vm₁, B, X₁.warmed, X', hpost, fun target h => hstep₁ _ fun acts => by rw [doInvoke_state]; exact hsteps.trans h⟩
  · exact Or.inr ⟨q, vm₁, B, X₁.warmed, X', hpost, hstep₁ _ fun acts => by rw [doInvoke_state]; exact hsteps⟩
end Calls
theorem vx_cls {s : State} {T : State} {vm₁ : Vm} {E : String} {k : ClassId} (hW : s.WarmedH vm₁) (h : (T.setVm vm₁).vm.findClass E = some k) : s.vm.findClass E = some k := by
  have h1 : vm₁.findClass E = some k := h
  rw [hW.alike.findClass] at h1
  exact h1
/-- the method's frame g, with q thrown over it -/
def vx_W (p : Program) (l : Launch) (e : Env) (R : Room) (s : State) (m : MethodId) (args : Array Value) (below : List Frame) (meth : Method) (c : Code) (H : Heap) (locs : List Loc) (cells slots : Nat) (Q : State → Prop) (g : JFrame) (q : Addr) : Prop :=
  ∀ T : State, T.heap = H → Stand p l e R s m args below meth c T locs cells slots → ∃ t, Steps p.tables e below ((T.setTop g).pushFrame (.throwing q)) t ∧ Q t
def vx_Run (p : Program) (l : Launch) (e : Env) (R : Room) (s : State) (m : MethodId) (args : Array Value) (below : List Frame) (meth : Method) (c : Code) (H : Heap) (locs : List Loc) (cells slots mc ms : Nat) (g : JFrame) (rest : List Value) (Qa : State → Outcome → State → Prop) (XC : String → State → State → Prop) (free : Addr → Prop) : Prop :=
  ∀ T : State, T.heap = H → Stand p l e R s m args below meth c T locs cells slots →
    (∃ (v : Option Value) (st₀ t T' : State) (L : List Loc), st₀.heap = H ∧ Stand p l e R s m args below meth c T' (locs ++ L) (cells + mc) (slots + ms) ∧ (∀ q ∈ L, free q.base) ∧ T'.heap = t.heap ∧ T'.vm = t.vm ∧ Qa st₀ (.returned v) t ∧
      Goes p e below T g T' { g with pc := g.pc + 3, stack := v.toList ++ rest }) ∨
    (∃ (q : Addr) (st₀ t T' : State) (L : List Loc) (E : String) (ce : Cell), st₀.heap = H ∧ Stand p l e R s m args below meth c T' (locs ++ L) (cells + mc) (slots + ms) ∧ (∀ z ∈ L, free z.base) ∧ T'.heap = t.heap ∧ T'.vm = t.vm ∧ XC E st₀ t ∧ t.heap[q]? = some ce ∧ ce.vm = .none ∧ s.vm.findClass E = some ce.cls ∧
      Steps p.tables e below (T.setTop g) ((T'.setTop { g with stack := rest }).pushFrame (.throwing q)))
def vx_X {S : Type} (px : S → Prop) (B : String → S → State → Prop) (A : Nat → Prop) : String → State → State → Prop := fun E st t => ∃ u : S, px u ∧ B E u t ∧ va_F A st t
section Runs
variable {p : Program} {l : Launch} {e : Env} {R : Room} {s : State} {m : MethodId} {args : Array Value} {below : List Frame} {meth : Method} {c : Code} {H : Heap} {locs : List Loc} {cells slots : Nat}
variable {y : MethodName} {bytes cc : ByteArray} {maxL nL mc ms n index : Nat} {ret : Option FieldType} {ws : List Cond} {rm : Room} {Pc : Array Value → State → Prop} {Qc : Array Value → State → Outcome → State → Prop} {XC : String → State → State → Prop} {free : Addr → Prop} {Ts : List Cond} {own C : String} {b : Addr} {As rest : List Value} {g : JFrame}
theorem vx_callBack (cb : CallB R s args own index y bytes maxL ret ws rm mc ms n) (hM : vx_Met l y ws rm Pc Qc XC mc ms free) (hbl : FrameBlind Pc) : vx_Back l R p e below s args y 3 8 (PreOf R mc ms Pc) (PostOf Qc mc ms free) (vx_Post XC mc ms free) := by
  obtain ⟨hrc, hrs, hfr, hlo, hws, hcw, -, hini, -⟩ := cb
  exact vx_back (bytes := bytes) (maxL := maxL) (ret := ret) hM hbl hrc hrs hfr hlo hws hcw (fun a' U hW => word_at hW (Or.inl (by first | rfl | simp [Cond.onTables, Cond.keeps, Cond.steady])) hini)
theorem vx_runV (S : CallFix p m c cc nL s args Ts own) (hM : vx_Met l y ws rm Pc Qc XC mc ms free) (cw : CallW R s args own C index y bytes maxL ret ws rm mc ms n) (hp : PreV s H C b Pc As)
    (hg : g.method = m) (hn : As.length = n) (hsize : g.locals.size = nL) (hstack : g.stack = As.reverse ++ .ref b :: rest) (hW : 2 * g.monitorRoom + (rest.map fun v => v.category).sum ≤ 8) (hdg : decode cc g.pc = .ok (.invokevirtual index, 3)) (hf : cells + mc ≤ R.cells ∧ slots + ms ≤ R.slots) :
    vx_Run p l e R s m args below meth c H locs cells slots mc ms g rest (Qc (Value.ref b :: As).toArray) XC free := by
  have hK : vx_Back l R p e below s args y 3 8 (PreOf R mc ms Pc) (PostOf Qc mc ms free) (vx_Post XC mc ms free) := vx_callBack cw.1 hM hp.1
  obtain ⟨⟨-, -, -, -, -, -, hcode, -, hy, hlen, hl⟩, hin, hse⟩ := cw
  obtain ⟨hx, hb, hml, ho, -⟩ := S
  obtain ⟨-, ⟨cellB, hcB, hoB, hclB⟩, hPc⟩ := hp
  intro T hT X
  rcases vx_callV X hx (C := C) (bytes := bytes) (maxL := maxL) (ret := ret) ho hl hin hse hcode hy hK (by rw [hT]; exact hcB) hoB hclB hg (hsize.trans hml.symm) (argsL := As) (rest := rest) (fun sig h => hn.trans (hlen sig h)) hstack hW (by rw [hb]; exact hdg)
    (fun vm₁ hW₁ => ⟨hf.1, hf.2, hPc (T.setVm vm₁) hT hW₁⟩) with ⟨v, vm₁, ⟨U', l2, c2, s2⟩, hW₁, X', ⟨g', mk, t, L, e1, e2, hq, h1, hL, h2, h3⟩, st⟩ | ⟨q, vm₁, ⟨U', l2, c2, s2⟩, hW₁, X', ⟨g', mk, t, L, E, ce, e1, e2, hq, hce, hcv, hcl, h1, hL, h2, h3⟩, st⟩
  · dsimp only [Pt.U, Pt.locs, Pt.cells, Pt.slots] at X' e1 e2 h1 h2 h3 st
    subst h1; subst h2; subst h3
    exact Or.inl ⟨v, (T.setVm vm₁).calling g' mk (Value.ref b :: As).toArray, t, U', L, hT, X', hL, e1, e2, hq, st⟩
  · dsimp only [Pt.U, Pt.locs, Pt.cells, Pt.slots] at X' e1 e2 h1 h2 h3 st hcl
    subst h1; subst h2; subst h3
    exact Or.inr ⟨q, (T.setVm vm₁).calling g' mk (Value.ref b :: As).toArray, t, U', L, E, ce, hT, X', hL, e1, e2, hq, hce, hcv, vx_cls hW₁ hcl, st⟩
theorem vx_runS (S : CallFix p m c cc nL s args Ts own) (hM : vx_Met l y ws rm Pc Qc XC mc ms free) (cw : CallB R s args own index y bytes maxL ret ws rm mc ms n ∧ (Cond.static y).before args s = true) (hp : PreS s H Pc As)
    (hg : g.method = m) (hn : As.length = n) (hsize : g.locals.size = nL) (hstack : g.stack = As.reverse ++ rest) (hW : 2 * g.monitorRoom + (rest.map fun v => v.category).sum ≤ 8) (hdg : decode cc g.pc = .ok (.invokestatic index, 3)) (hf : cells + mc ≤ R.cells ∧ slots + ms ≤ R.slots) :
    vx_Run p l e R s m args below meth c H locs cells slots mc ms g rest (Qc As.toArray) XC free := by
  have hK : vx_Back l R p e below s args y 3 8 (PreOf R mc ms Pc) (PostOf Qc mc ms free) (vx_Post XC mc ms free) := vx_callBack cw.1 hM hp.1
  obtain ⟨⟨-, -, -, -, -, -, hcode, hini, hy, hlen, hl⟩, hstt⟩ := cw
  obtain ⟨hx, hb, hml, ho, -⟩ := S
  intro T hT X
  rcases vx_callS X hx (bytes := bytes) (maxL := maxL) (ret := ret) ho hl hstt hini hcode hy hK hg (hsize.trans hml.symm) (argsL := As) (rest := rest) (fun sig h => hn.trans (hlen sig h)) hstack hW (by rw [hb]; exact hdg)
    (fun vm₁ hW₁ => ⟨hf.1, hf.2, hp.2 (T.setVm vm₁) hT hW₁⟩) with ⟨v, vm₁, ⟨U', l2, c2, s2⟩, hW₁, X', ⟨g', mk, t, L, e1, e2, hq, h1, hL, h2, h3⟩, st⟩ | ⟨q, vm₁, ⟨U', l2, c2, s2⟩, hW₁, X', ⟨g', mk, t, L, E, ce, e1, e2, hq, hce, hcv, hcl, h1, hL, h2, h3⟩, st⟩
  · dsimp only [Pt.U, Pt.locs, Pt.cells, Pt.slots] at X' e1 e2 h1 h2 h3 st
    subst h1; subst h2; subst h3
    exact Or.inl ⟨v, (T.setVm vm₁).calling g' mk As.toArray, t, U', L, hT, X', hL, e1, e2, hq, st⟩
  · dsimp only [Pt.U, Pt.locs, Pt.cells, Pt.slots] at X' e1 e2 h1 h2 h3 st hcl
    subst h1; subst h2; subst h3
    exact Or.inr ⟨q, (T.setVm vm₁).calling g' mk As.toArray, t, U', L, E, ce, hT, X', hL, e1, e2, hq, hce, hcv, vx_cls hW₁ hcl, st⟩
end Runs
section Rows
variable {p : Program} {l : Launch} {e : Env} {R : Room} {s : State} {m : MethodId} {args : Array Value} {below : List Frame} {meth : Method} {c : Code} {H : Heap} {locs : List Loc} {cells slots : Nat} {Q : State → Prop}
variable {mc ms : Nat} {free : Addr → Prop} {A0 A1 : Nat → Prop} {H0 : Heap} {a : Array Value} {pc : Nat} {ls : Array Slot} {st0 rest : List Value}
theorem vx_keep {st₀ t T' : State} {L : List Loc} (h0 : st₀.heap = H) (e1 : T'.heap = t.heap) (hS : va_S A0 H0 H locs) (hA : ∀ q, q < H.size → A1 q → A0 q) (hf : ∀ q, free q → A0 q) (hL : ∀ q ∈ L, free q.base) (hF : va_F A1 st₀ t) :
    H.size ≤ T'.heap.size ∧ (∀ q : Nat, q < H.size → ¬ A1 q → T'.heap[q]? = H[q]?) ∧ va_S A0 H0 T'.heap (locs ++ L) := by
  obtain ⟨hz, hk⟩ := hF
  rw [h0] at hz hk
  exact ⟨by rw [e1]; exact hz, fun q h1 h2 => by rw [e1]; exact hk q h1 h2,
    ⟨Nat.le_trans hS.1 (by rw [e1]; exact hz), fun q h1 h2 => by rw [e1, hk q (Nat.lt_of_lt_of_le h1 hS.1) (fun z => h2 (hA q (Nat.lt_of_lt_of_le h1 hS.1) z))]; exact hS.2.1 q h1 h2, fun q hq => by
      rcases List.mem_append.mp hq with h | h
      · exact hS.2.2 q h
      · exact hf _ (hL q h)⟩⟩
theorem vx_calli {S SX : Type} {post : Int32 → S → Prop} {px : SX → Prop} {B : S → State → Prop} {BX : String → SX → State → Prop} {AX : Nat → Prop} (hr : vx_Run p l e R s m args below meth c H locs cells slots mc ms (F0 m pc ls st0) rest (va_Qi post B A1 a) (vx_X px BX AX) free) (hS : va_S A0 H0 H locs) (hA : ∀ q, q < H.size → A1 q → A0 q) (hf : ∀ q, free q → A0 q) (hAX : ∀ q, q < H.size → AX q → A0 q)
    (kx : ∀ (E : String) (ce : Cell) (q9 : Addr) (u : SX) (t : State) (H1 : Heap) (locs1 : List Loc), t.heap = H1 → s.vm.Alike t.vm → px u → BX E u t → H.size ≤ H1.size → (∀ q : Nat, q < H.size → ¬ AX q → H1[q]? = H[q]?) → va_S A0 H0 H1 locs1 → H1[q9]? = some ce → ce.vm = .none → s.vm.findClass E = some ce.cls → vx_W p l e R s m args below meth c H1 locs1 (cells + mc) (slots + ms) Q (F0 m pc ls rest) q9)
    (kk : ∀ (r : Int32) (u : S) (t : State) (H1 : Heap) (locs1 : List Loc), t.heap = H1 → s.vm.Alike t.vm → post r u → B u t → H.size ≤ H1.size → (∀ q : Nat, q < H.size → ¬ A1 q → H1[q]? = H[q]?) → va_S A0 H0 H1 locs1 → W p l e R s m args below meth c H1 locs1 (cells + mc) (slots + ms) Q (F0 m (pc + 3) ls (.int r :: rest))) : W p l e R s m args below meth c H locs cells slots Q (F0 m pc ls st0) := by
  intro T hT X
  rcases hr T hT X with ⟨v, st₀, t, T', L, h0, X', hL, e1, e2, ⟨⟨r, u, hv, hp, hb⟩, hF⟩, st⟩ | ⟨q, st₀, t, T', L, E, ce, h0, X', hL, e1, e2, ⟨u, hp, hb, hF⟩, hce, hcv, hcl, st⟩
  · cases hv
    obtain ⟨k1, k2, k3⟩ := vx_keep h0 e1 hS hA hf hL hF
    obtain ⟨t2, a1, b1⟩ := kk r u t T'.heap (locs ++ L) e1.symm (by rw [← e2]; exact X'.warmed.alike) hp hb k1 k2 k3 T' rfl X'
    exact ⟨t2, st t2 a1, b1⟩
  · obtain ⟨k1, k2, k3⟩ := vx_keep h0 e1 hS hAX hf hL hF
    obtain ⟨t2, a1, b1⟩ := kx E ce q u t T'.heap (locs ++ L) e1.symm (by rw [← e2]; exact X'.warmed.alike) hp hb k1 k2 k3 (by rw [e1]; exact hce) hcv hcl T' rfl X'
    exact ⟨t2, st.trans a1, b1⟩
theorem vx_calll {S SX : Type} {post : Int64 → S → Prop} {px : SX → Prop} {B : S → State → Prop} {BX : String → SX → State → Prop} {AX : Nat → Prop} (hr : vx_Run p l e R s m args below meth c H locs cells slots mc ms (F0 m pc ls st0) rest (va_Ql post B A1 a) (vx_X px BX AX) free) (hS : va_S A0 H0 H locs) (hA : ∀ q, q < H.size → A1 q → A0 q) (hf : ∀ q, free q → A0 q) (hAX : ∀ q, q < H.size → AX q → A0 q)
    (kx : ∀ (E : String) (ce : Cell) (q9 : Addr) (u : SX) (t : State) (H1 : Heap) (locs1 : List Loc), t.heap = H1 → s.vm.Alike t.vm → px u → BX E u t → H.size ≤ H1.size → (∀ q : Nat, q < H.size → ¬ AX q → H1[q]? = H[q]?) → va_S A0 H0 H1 locs1 → H1[q9]? = some ce → ce.vm = .none → s.vm.findClass E = some ce.cls → vx_W p l e R s m args below meth c H1 locs1 (cells + mc) (slots + ms) Q (F0 m pc ls rest) q9)
    (kk : ∀ (r : Int64) (u : S) (t : State) (H1 : Heap) (locs1 : List Loc), t.heap = H1 → s.vm.Alike t.vm → post r u → B u t → H.size ≤ H1.size → (∀ q : Nat, q < H.size → ¬ A1 q → H1[q]? = H[q]?) → va_S A0 H0 H1 locs1 → W p l e R s m args below meth c H1 locs1 (cells + mc) (slots + ms) Q (F0 m (pc + 3) ls (.long r :: rest))) : W p l e R s m args below meth c H locs cells slots Q (F0 m pc ls st0) := by
  intro T hT X
  rcases hr T hT X with ⟨v, st₀, t, T', L, h0, X', hL, e1, e2, ⟨⟨r, u, hv, hp, hb⟩, hF⟩, st⟩ | ⟨q, st₀, t, T', L, E, ce, h0, X', hL, e1, e2, ⟨u, hp, hb, hF⟩, hce, hcv, hcl, st⟩
  · cases hv
    obtain ⟨k1, k2, k3⟩ := vx_keep h0 e1 hS hA hf hL hF
    obtain ⟨t2, a1, b1⟩ := kk r u t T'.heap (locs ++ L) e1.symm (by rw [← e2]; exact X'.warmed.alike) hp hb k1 k2 k3 T' rfl X'
    exact ⟨t2, st t2 a1, b1⟩
  · obtain ⟨k1, k2, k3⟩ := vx_keep h0 e1 hS hAX hf hL hF
    obtain ⟨t2, a1, b1⟩ := kx E ce q u t T'.heap (locs ++ L) e1.symm (by rw [← e2]; exact X'.warmed.alike) hp hb k1 k2 k3 (by rw [e1]; exact hce) hcv hcl T' rfl X'
    exact ⟨t2, st.trans a1, b1⟩
theorem vx_callf {S SX : Type} {post : UInt32 → S → Prop} {px : SX → Prop} {B : S → State → Prop} {BX : String → SX → State → Prop} {AX : Nat → Prop} (hr : vx_Run p l e R s m args below meth c H locs cells slots mc ms (F0 m pc ls st0) rest (va_Qf post B A1 a) (vx_X px BX AX) free) (hS : va_S A0 H0 H locs) (hA : ∀ q, q < H.size → A1 q → A0 q) (hf : ∀ q, free q → A0 q) (hAX : ∀ q, q < H.size → AX q → A0 q)
    (kx : ∀ (E : String) (ce : Cell) (q9 : Addr) (u : SX) (t : State) (H1 : Heap) (locs1 : List Loc), t.heap = H1 → s.vm.Alike t.vm → px u → BX E u t → H.size ≤ H1.size → (∀ q : Nat, q < H.size → ¬ AX q → H1[q]? = H[q]?) → va_S A0 H0 H1 locs1 → H1[q9]? = some ce → ce.vm = .none → s.vm.findClass E = some ce.cls → vx_W p l e R s m args below meth c H1 locs1 (cells + mc) (slots + ms) Q (F0 m pc ls rest) q9)
    (kk : ∀ (r : UInt32) (u : S) (t : State) (H1 : Heap) (locs1 : List Loc), t.heap = H1 → s.vm.Alike t.vm → post r u → B u t → H.size ≤ H1.size → (∀ q : Nat, q < H.size → ¬ A1 q → H1[q]? = H[q]?) → va_S A0 H0 H1 locs1 → W p l e R s m args below meth c H1 locs1 (cells + mc) (slots + ms) Q (F0 m (pc + 3) ls (.float r :: rest))) : W p l e R s m args below meth c H locs cells slots Q (F0 m pc ls st0) := by
  intro T hT X
  rcases hr T hT X with ⟨v, st₀, t, T', L, h0, X', hL, e1, e2, ⟨⟨r, u, hv, hp, hb⟩, hF⟩, st⟩ | ⟨q, st₀, t, T', L, E, ce, h0, X', hL, e1, e2, ⟨u, hp, hb, hF⟩, hce, hcv, hcl, st⟩
  · cases hv
    obtain ⟨k1, k2, k3⟩ := vx_keep h0 e1 hS hA hf hL hF
    obtain ⟨t2, a1, b1⟩ := kk r u t T'.heap (locs ++ L) e1.symm (by rw [← e2]; exact X'.warmed.alike) hp hb k1 k2 k3 T' rfl X'
    exact ⟨t2, st t2 a1, b1⟩
  · obtain ⟨k1, k2, k3⟩ := vx_keep h0 e1 hS hAX hf hL hF
    obtain ⟨t2, a1, b1⟩ := kx E ce q u t T'.heap (locs ++ L) e1.symm (by rw [← e2]; exact X'.warmed.alike) hp hb k1 k2 k3 (by rw [e1]; exact hce) hcv hcl T' rfl X'
    exact ⟨t2, st.trans a1, b1⟩
theorem vx_calld {S SX : Type} {post : UInt64 → S → Prop} {px : SX → Prop} {B : S → State → Prop} {BX : String → SX → State → Prop} {AX : Nat → Prop} (hr : vx_Run p l e R s m args below meth c H locs cells slots mc ms (F0 m pc ls st0) rest (va_Qd post B A1 a) (vx_X px BX AX) free) (hS : va_S A0 H0 H locs) (hA : ∀ q, q < H.size → A1 q → A0 q) (hf : ∀ q, free q → A0 q) (hAX : ∀ q, q < H.size → AX q → A0 q)
    (kx : ∀ (E : String) (ce : Cell) (q9 : Addr) (u : SX) (t : State) (H1 : Heap) (locs1 : List Loc), t.heap = H1 → s.vm.Alike t.vm → px u → BX E u t → H.size ≤ H1.size → (∀ q : Nat, q < H.size → ¬ AX q → H1[q]? = H[q]?) → va_S A0 H0 H1 locs1 → H1[q9]? = some ce → ce.vm = .none → s.vm.findClass E = some ce.cls → vx_W p l e R s m args below meth c H1 locs1 (cells + mc) (slots + ms) Q (F0 m pc ls rest) q9)
    (kk : ∀ (r : UInt64) (u : S) (t : State) (H1 : Heap) (locs1 : List Loc), t.heap = H1 → s.vm.Alike t.vm → post r u → B u t → H.size ≤ H1.size → (∀ q : Nat, q < H.size → ¬ A1 q → H1[q]? = H[q]?) → va_S A0 H0 H1 locs1 → W p l e R s m args below meth c H1 locs1 (cells + mc) (slots + ms) Q (F0 m (pc + 3) ls (.double r :: rest))) : W p l e R s m args below meth c H locs cells slots Q (F0 m pc ls st0) := by
  intro T hT X
  rcases hr T hT X with ⟨v, st₀, t, T', L, h0, X', hL, e1, e2, ⟨⟨r, u, hv, hp, hb⟩, hF⟩, st⟩ | ⟨q, st₀, t, T', L, E, ce, h0, X', hL, e1, e2, ⟨u, hp, hb, hF⟩, hce, hcv, hcl, st⟩
  · cases hv
    obtain ⟨k1, k2, k3⟩ := vx_keep h0 e1 hS hA hf hL hF
    obtain ⟨t2, a1, b1⟩ := kk r u t T'.heap (locs ++ L) e1.symm (by rw [← e2]; exact X'.warmed.alike) hp hb k1 k2 k3 T' rfl X'
    exact ⟨t2, st t2 a1, b1⟩
  · obtain ⟨k1, k2, k3⟩ := vx_keep h0 e1 hS hAX hf hL hF
    obtain ⟨t2, a1, b1⟩ := kx E ce q u t T'.heap (locs ++ L) e1.symm (by rw [← e2]; exact X'.warmed.alike) hp hb k1 k2 k3 (by rw [e1]; exact hce) hcv hcl T' rfl X'
    exact ⟨t2, st.trans a1, b1⟩
theorem vx_callv {S SX : Type} {post : S → Prop} {px : SX → Prop} {B : S → State → Prop} {BX : String → SX → State → Prop} {AX : Nat → Prop} (hr : vx_Run p l e R s m args below meth c H locs cells slots mc ms (F0 m pc ls st0) rest (va_Qv post B A1 a) (vx_X px BX AX) free) (hS : va_S A0 H0 H locs) (hA : ∀ q, q < H.size → A1 q → A0 q) (hf : ∀ q, free q → A0 q) (hAX : ∀ q, q < H.size → AX q → A0 q)
    (kx : ∀ (E : String) (ce : Cell) (q9 : Addr) (u : SX) (t : State) (H1 : Heap) (locs1 : List Loc), t.heap = H1 → s.vm.Alike t.vm → px u → BX E u t → H.size ≤ H1.size → (∀ q : Nat, q < H.size → ¬ AX q → H1[q]? = H[q]?) → va_S A0 H0 H1 locs1 → H1[q9]? = some ce → ce.vm = .none → s.vm.findClass E = some ce.cls → vx_W p l e R s m args below meth c H1 locs1 (cells + mc) (slots + ms) Q (F0 m pc ls rest) q9)
    (kk : ∀ (u : S) (t : State) (H1 : Heap) (locs1 : List Loc), t.heap = H1 → s.vm.Alike t.vm → post u → B u t → H.size ≤ H1.size → (∀ q : Nat, q < H.size → ¬ A1 q → H1[q]? = H[q]?) → va_S A0 H0 H1 locs1 → W p l e R s m args below meth c H1 locs1 (cells + mc) (slots + ms) Q (F0 m (pc + 3) ls (rest))) : W p l e R s m args below meth c H locs cells slots Q (F0 m pc ls st0) := by
  intro T hT X
  rcases hr T hT X with ⟨v, st₀, t, T', L, h0, X', hL, e1, e2, ⟨⟨u, hv, hp, hb⟩, hF⟩, st⟩ | ⟨q, st₀, t, T', L, E, ce, h0, X', hL, e1, e2, ⟨u, hp, hb, hF⟩, hce, hcv, hcl, st⟩
  · cases hv
    obtain ⟨k1, k2, k3⟩ := vx_keep h0 e1 hS hA hf hL hF
    obtain ⟨t2, a1, b1⟩ := kk u t T'.heap (locs ++ L) e1.symm (by rw [← e2]; exact X'.warmed.alike) hp hb k1 k2 k3 T' rfl X'
    exact ⟨t2, st t2 a1, b1⟩
  · obtain ⟨k1, k2, k3⟩ := vx_keep h0 e1 hS hAX hf hL hF
    obtain ⟨t2, a1, b1⟩ := kx E ce q u t T'.heap (locs ++ L) e1.symm (by rw [← e2]; exact X'.warmed.alike) hp hb k1 k2 k3 (by rw [e1]; exact hce) hcv hcl T' rfl X'
    exact ⟨t2, st.trans a1, b1⟩
end Rows
section Ends
variable {p : Program} {l : Launch} {e : Env} {R : Room} {s : State} {m : MethodId} {args : Array Value} {below : List Frame} {meth : Method} {c : Code} {H : Heap} {locs : List Loc} {cells slots : Nat} {Q : State → Prop}
variable {mc ms : Nat} {free : Addr → Prop} {A0 A1 : Nat → Prop} {H0 : Heap} {a : Array Value} {ls : Array Slot} {st0 rest : List Value}
variable {Qc : Array Value → State → Outcome → State → Prop} {XC : String → State → State → Prop}
/-- what a body that may throw owes at its end -/
def vx_MQ (below : List Frame) (Qc : Array Value → State → Outcome → State → Prop) (XC : String → State → State → Prop) (a : Array Value) (s : State) (mc ms : Nat) (free : Addr → Prop) : State → Prop := fun t =>
  ∃ o, t.status = .running ∧ Ended t below o ∧ vx_Q Qc XC mc ms free a s o t
theorem vx_ret {g : JFrame} {mc ms : Nat} (k : W p l e R s m args below meth c H locs cells slots (MQ below Qc args s mc ms free) g) : W p l e R s m args below meth c H locs cells slots (vx_MQ below Qc XC args s mc ms free) g := by
  intro T hT X
  obtain ⟨t, a1, o, b1, b2, b3, b4⟩ := k T hT X
  exact ⟨t, a1, o, b1, b2, Or.inl ⟨b3, b4⟩⟩
/-- not caught here: it goes on to the caller -/
theorem vx_widen {g : JFrame} {q : Addr} {k n : Nat} (h1 : cells ≤ k) (h2 : slots ≤ n) (kk : vx_W p l e R s m args below meth c H locs k n Q g q) : vx_W p l e R s m args below meth c H locs cells slots Q g q := fun T hT X => kk T hT (stand_widen X h1 h2)
theorem vx_out {pc : Nat} {E : String} {ce : Cell} {q : Addr} {mc ms : Nat} (hout : ∀ x ∈ c.exceptionTable.toList, covers x pc = false) (hlocks : meth.locks = false) (hcell : H[q]? = some ce) (hv : ce.vm = .none) (hcl : s.vm.findClass E = some ce.cls)
    (hx : ∀ t : State, t.heap = H → s.vm.Alike t.vm → XC E s t) (hf : ∀ z ∈ locs, free z.base) (hc : cells ≤ mc) (hs : slots ≤ ms) :
    vx_W p l e R s m args below meth c H locs cells slots (vx_MQ below Qc XC args s mc ms free) (F0 m pc ls rest) q := by
  intro T hT X
  obtain ⟨st1, hrun, hend, hW, hsm⟩ := X.leaveThrown q (g := F0 m pc ls rest) rfl rfl rfl hout hlocks
  have hcell9 : (T.setFrames (.throwing q :: below)).heap[q]? = some ce := by
    show T.heap[q]? = some ce
    rw [hT]; exact hcell
  exact ⟨_, st1, .threw q, hrun, hend, Or.inr ⟨q, rfl, E, ce, locs, hx _ hT hW.alike, hcell9, hv, hcl, hW, hsm.mono hc hs, hf⟩⟩
theorem vx_frame {U : State} {k n : Nat} (h : s.sameButNew ({ U with vm := s.vm } : State) locs k n) : s.heap.size ≤ U.heap.size ∧ ∀ q : Nat, q < s.heap.size → (∀ z ∈ locs, z.base ≠ q) → U.heap[q]? = s.heap[q]? := by
  obtain ⟨-, h2, -, -, -, h6⟩ := h
  refine ⟨h2, fun q hq hz => ?_⟩
  obtain ⟨c9, e1, e2, e3, e4⟩ := h6 q _ (Array.getElem?_eq_getElem hq)
  have hs : c9.slots = (s.heap[q]).slots := Array.ext_getElem? fun i => e4 i fun hm => hz _ hm rfl
  have h9 : c9 = s.heap[q] := by
    rw [hs] at e2
    exact e2
  have e5 : U.heap[q]? = some c9 := e1
  rw [e5, h9, Array.getElem?_eq_getElem hq]
/-- the words of a throw but the four that speak of the heap -/
def vx_no (w : Cond) : Bool := decide (w ≠ .isRef (.static Bundle.tN "UNASSIGNED_STACK" Bundle.steD)) && decide (w ≠ .isRef (.static Bundle.tN "SUPPRESSED_SENTINEL" Bundle.listD)) && decide (w ≠ .laysStatic Bundle.tN "UNASSIGNED_STACK" Bundle.steD) && decide (w ≠ .laysStatic Bundle.tN "SUPPRESSED_SENTINEL" Bundle.listD)
def vx_at0 (own : String) (ic : Nat) (X : String) (names : List String) : List Cond := (Bundle.ownAtoms0 own ic X names).filter vx_no
def vx_atS (own : String) (ic : Nat) (X : String) (names : List String) : List Cond := (Bundle.ownAtoms own ic X names).filter vx_no
/-- a word that the tables alone decide, or a good one -/
def vx_ot (w : Cond) : Bool := w.onTables || goodWord w
theorem vx_ot_at {args a' : Array Value} {s U : State} {w : Cond} (hW : s.WarmedH U.vm) (hvm : s.vm = U.vm) (hg : vx_ot w = true) (h : w.before args s = true) : w.before a' U = true := by
  simp only [vx_ot, Bool.or_eq_true] at hg
  rcases hg with hg | hg
  · exact va_tabs hg hvm h
  · exact word_at hW (good_of_word hg) h
/-- a list's words: the good ones out of the method's own list, the others by premises of their own -/
theorem vx_hat {args : Array Value} {s : State} {L B : List Cond} (h1 : ∀ w ∈ L.filter goodWord, w.before args s = true) (h2 : ∀ w ∈ L.filter (fun w => !goodWord w), w ∈ B) (h3 : ∀ w ∈ B, w.before args s = true) : ∀ w ∈ L, w.before args s = true := by
  intro w hw
  by_cases g : goodWord w = true
  · exact h1 w (List.mem_filter.mpr ⟨hw, g⟩)
  · refine h3 w (h2 w (List.mem_filter.mpr ⟨hw, ?_⟩))
    show (!goodWord w) = true
    cases hgw : goodWord w
    · rfl
    · exact absurd hgw g
theorem vx_c {args : Array Value} {s : State} {w : Cond} {B : List Cond} (h : w.before args s = true) (t : ∀ w ∈ B, w.before args s = true) : ∀ w' ∈ w :: B, w'.before args s = true := fun w' h' => (List.mem_cons.mp h').elim (fun e => by rw [e]; exact h) (t w')
theorem vx_n {args : Array Value} {s : State} : ∀ w ∈ ([] : List Cond), w.before args s = true := fun _ h => nomatch h
theorem vx_own {args : Array Value} {s : State} {L : List Cond} (h1 : ∀ w ∈ L.filter vx_no, w.before args s = true)
    (hU : (Cond.isRef (.static Bundle.tN "UNASSIGNED_STACK" Bundle.steD)).before args s = true) (hN : (Cond.isRef (.static Bundle.tN "SUPPRESSED_SENTINEL" Bundle.listD)).before args s = true)
    (lU : (Cond.laysStatic Bundle.tN "UNASSIGNED_STACK" Bundle.steD).before args s = true) (lN : (Cond.laysStatic Bundle.tN "SUPPRESSED_SENTINEL" Bundle.listD).before args s = true) : ∀ w ∈ L, w.before args s = true := by
  intro w hw
  by_cases e1 : w = .isRef (.static Bundle.tN "UNASSIGNED_STACK" Bundle.steD)
  · rw [e1]; exact hU
  · by_cases e2 : w = .isRef (.static Bundle.tN "SUPPRESSED_SENTINEL" Bundle.listD)
    · rw [e2]; exact hN
    · by_cases e3 : w = .laysStatic Bundle.tN "UNASSIGNED_STACK" Bundle.steD
      · rw [e3]; exact lU
      · by_cases e4 : w = .laysStatic Bundle.tN "SUPPRESSED_SENTINEL" Bundle.listD
        · rw [e4]; exact lN
        · exact h1 w (List.mem_filter.mpr ⟨hw, by unfold vx_no; rw [decide_eq_true e1, decide_eq_true e2, decide_eq_true e3, decide_eq_true e4]; rfl⟩)
/-- where a static field lies, its class's statics cell in H -/
def vx_L (C n d : String) (A : Nat → Prop) (U : State) (H : Heap) : Prop := ∃ (c : ClassId) (k : Class) (i : Nat) (f : Field) (a : Nat) (cell : Cell), U.vm.findClass C = some c ∧ U.fieldFound? C n d = some (c, k, i, f) ∧ f.isStatic = true ∧ k.statics = some a ∧ H[a]? = some cell ∧ cell.vm.isStatics = true ∧ cell.cls = c ∧ f.slot < cell.slots.size ∧ k.staticTypes[f.slot]? = some f.type ∧ ¬ A a
theorem vx_L.moved {C n d : String} {A : Nat → Prop} {u U : State} {H : Heap} (hvm : u.vm.Alike U.vm) (h : vx_L C n d A u H) : vx_L C n d A U H := by
  obtain ⟨c, k, i, f, a, cell, h1, h2, h3, h4, h5, h6, h7, h8, h9, h10⟩ := h
  obtain ⟨k', hi', he⟩ := State.fieldFound?_setVm hvm h2
  exact ⟨c, k', i, f, a, cell, by rw [hvm.findClass]; exact h1, hi', h3, by rw [he]; exact h4, h5, h6, h7, h8, by rw [he]; exact h9, h10⟩
theorem vx_L.kept {C n d : String} {A : Nat → Prop} {U : State} {H H1 : Heap} (h : vx_L C n d A U H) (hq : ∀ a : Nat, a < H.size → ¬ A a → H1[a]? = H[a]?) : vx_L C n d A U H1 := by
  obtain ⟨c, k, i, f, a, cell, h1, h2, h3, h4, h5, h6, h7, h8, h9, h10⟩ := h
  exact ⟨c, k, i, f, a, cell, h1, h2, h3, h4, by rw [hq a (Array.getElem?_eq_some_iff.mp h5).1 h10]; exact h5, h6, h7, h8, h9, h10⟩
theorem vx_L.narrow {C n d : String} {A B : Nat → Prop} {U : State} {H : Heap} (h : vx_L C n d A U H) (hAB : ∀ q, B q → A q) : vx_L C n d B U H := by
  obtain ⟨c, k, i, f, a, cell, h1, h2, h3, h4, h5, h6, h7, h8, h9, h10⟩ := h
  exact ⟨c, k, i, f, a, cell, h1, h2, h3, h4, h5, h6, h7, h8, h9, fun z => h10 (hAB _ z)⟩
theorem vx_L.word {C n d : String} {A : Nat → Prop} {s : State} {args : Array Value} (h : vx_L C n d A s s.heap) : (Cond.laysStatic C n d).before args s = true := by
  obtain ⟨c, k, i, f, a, cell, h1, h2, h3, h4, h5, h6, h7, h8, h9, -⟩ := h
  show (Cond.laysStatic C n d).holds args s none s [] = true
  exact Cond.laysStatic_of h1 h2 h3 h4 h5 h6 h7 h8 h9
/-- .. and what it holds: null or some reference -/
def vx_Zq (C n d : String) (A : Nat → Prop) (U : State) (H : Heap) : Prop := va_Zq C n d A U H ∧ vx_L C n d A U H
theorem vx_Zq.moved {C n d : String} {A : Nat → Prop} {u U : State} {H : Heap} (hvm : u.vm.Alike U.vm) (h : vx_Zq C n d A u H) : vx_Zq C n d A U H := ⟨va_Zq.moved hvm h.1, vx_L.moved hvm h.2⟩
theorem vx_Zq.kept {C n d : String} {A : Nat → Prop} {U : State} {H H1 : Heap} (h : vx_Zq C n d A U H) (hq : ∀ a : Nat, a < H.size → ¬ A a → H1[a]? = H[a]?) : vx_Zq C n d A U H1 := ⟨va_Zq.kept h.1 hq, vx_L.kept h.2 hq⟩
theorem vx_Zq.narrow {C n d : String} {A B : Nat → Prop} {U : State} {H : Heap} (h : vx_Zq C n d A U H) (hAB : ∀ q, B q → A q) : vx_Zq C n d B U H := ⟨va_Zq.narrow h.1 hAB, vx_L.narrow h.2 hAB⟩
theorem vx_Zqof {args : Array Value} {s : State} {C n d : String} {A : Nat → Prop} (hl : (Cond.laysStatic C n d).before args s = true) (hini : (Cond.initialized C).before args s = true) (h : (Cond.isRef (.static C n d)).before args s = true) (hA : ∀ a : Nat, a < s.heap.size → ¬ A a) : vx_Zq C n d A s s.heap := by
  refine ⟨va_Zqof hl hini h hA, ?_⟩
  obtain ⟨c, k, i, f, a, cell, h1, h2, h3, h4, h5, h6, h7, h8, h9⟩ := Cond.laysStatic_spec hl
  exact ⟨c, k, i, f, a, cell, h1, h2, h3, h4, h5, h6, h7, h8, h9, hA a (Array.getElem?_eq_some_iff.mp h5).1⟩
theorem vx_isRef {C n d : String} {v : Value} {A : Nat → Prop} {s : State} {args : Array Value} (h : va_Z C n d v A s s.heap) (hv : v.isRef = true) : (Cond.isRef (.static C n d)).before args s = true := by
  obtain ⟨cf, kf, fi, f, a, cell, h1, h2, h3, h4, h5, h6, h7, -⟩ := h
  have he : (Term.static C n d).eval args s none [] s = some v := by
    simp [Term.eval, State.fieldNamed?, h1, h2, h4, h5, h6, h7]
  simp only [Cond.before, Cond.holds, Cond.value, he]
  cases v <;> simp_all [Value.isRef]
theorem vx_isRefq {C n d : String} {A : Nat → Prop} {s : State} {args : Array Value} (h : va_Zq C n d A s s.heap) : (Cond.isRef (.static C n d)).before args s = true := by
  rcases h with h | ⟨t, h⟩
  · exact vx_isRef h rfl
  · exact vx_isRef h rfl
/-- the same frame, seen from here: as if the method were called anew in this heap -/
theorem vx_rebase {T : State} (X : Stand p l e R s m args below meth c T locs cells slots) {R' : Room} (hf : R'.frames ≤ R.frames) (hl : R'.locals ≤ R.locals) (hc : cells + R'.cells ≤ R.cells) (hs : slots + R'.slots ≤ R.slots) :
    Stand p l e R' ((T.setVm s.vm).setFrames (.invoking m args :: below)) m args below meth c T [] 0 0 := by
  have htop : (T.setVm s.vm).topJava?.isSome := X.here.top
  have hF : ((T.setVm s.vm).setFrames (.invoking m args :: below)).frames = .invoking m args :: below := State.frames_setFrames _ (State.cur_lt_of_top htop)
  obtain ⟨g₀, hg0⟩ := Option.isSome_iff_exists.mp htop
  obtain ⟨r, hr⟩ := State.topJava?_eq_some.mp hg0
  have hl9 : e.platform.stackLimits (T.setVm s.vm).me = e.platform.stackLimits s.me := X.limits
  have hb9 : (T.setVm s.vm).me.stackBytes = s.me.stackBytes := X.bytes
  refine ⟨X.admits, X.cas, X.clock, hF, ?_, X.hears, X.method, X.code, X.here, X.tail, X.warmed, ?_, ?_, ?_⟩
  · have h := X.room
    have hU : ((T.setVm s.vm).setFrames (.invoking m args :: below)).localsInUse = s.localsInUse := by
      rw [State.localsInUse_invoking hF (meth := meth) (c := c) X.method X.code, State.localsInUse_invoking X.frames X.method X.code]
    simp only [State.hasRoom, Bool.and_eq_true, decide_eq_true_eq] at h ⊢
    obtain ⟨⟨⟨⟨h1, h2, h3, h4, h5, h6⟩, h7⟩, h8⟩, h9⟩ := h
    rw [X.frames, List.length_cons] at h2 h3
    have q1 := X.heapSize
    have q2 := X.used
    simp only [hF, hU, List.length_cons, State.stackLimits_setFrames, State.stackBytes_setFrames, hl9, hb9]
    refine ⟨⟨⟨⟨by omega, by omega, by omega, by omega, by omega, h6⟩, ?_⟩, ?_⟩, X.book⟩
    · show T.heap.size + R'.cells ≤ e.platform.maxCells
      omega
    · show T.slotsUsed + R'.slots ≤ e.platform.maxSlots
      omega
  · rw [State.stackLimits_setFrames]; rfl
  · rw [State.stackBytes_setFrames]; rfl
  · refine ⟨?_, Nat.le_refl _, Nat.le_refl _, ?_, ?_, fun a c9 h9 => ⟨c9, h9, rfl, rfl, fun _ _ => rfl⟩⟩
    · obtain ⟨t, ht, -⟩ := State.frames_cons hr
      show T.setVm s.vm = { ((T.setVm s.vm).setFrames (.invoking m args :: below)).setFrames (T.setVm s.vm).frames with heap := T.heap, slotsUsed := T.slotsUsed }
      rw [State.setFrames_setFrames, State.setFrames_self ht]
      rfl
    · show T.slotsUsed = T.slotsUsed + ((T.heap.toList.drop T.heap.size).map (·.slots.size)).sum
      rw [List.drop_eq_nil_of_le (Nat.le_of_eq Array.length_toList)]
      rfl
    · show ((T.heap.toList.drop T.heap.size).map (·.slots.size)).sum ≤ 0
      rw [List.drop_eq_nil_of_le (Nat.le_of_eq Array.length_toList)]
      exact Nat.le_refl _
/-- 'throw new E()': new; dup; invokespecial; athrow -/
theorem vx_throw0 {cc : ByteArray} {pc : Nat} (hexec : p.tables.exec = Jvm.exec) (hb : c.code = cc) (hl : l.stackTraces = false) {own cls : String} {names : List String} {ik ic mc ms : Nat} {A : Nat → Prop}
    (hown : s.vm.findClass own = some m.cls) (hcls : Bundle.fit cls = true) (hnames : ∀ n ∈ names, Bundle.fit n = true)
    (hk : (Cond.classLink own ik cls).before args s = true) (hini : (Cond.initialized cls).before args s = true) (hat : ∀ w ∈ vx_at0 own ic cls names, w.before args s = true)
    (hgood : ∀ w ∈ Cond.classLink own ik cls :: Cond.initialized cls :: vx_at0 own ic cls names, vx_ot w = true)
    (hU : vx_Zq Bundle.tN "UNASSIGNED_STACK" Bundle.steD A s s.heap) (hN : vx_Zq Bundle.tN "SUPPRESSED_SENTINEL" Bundle.listD A s s.heap) (hS : va_S A s.heap H locs) (hsize : ls.size = c.maxLocals)
    (d0 : decode cc pc = .ok (.new ik, 3)) (d3 : decode cc (pc + 3) = .ok (.dup, 1)) (d4 : decode cc (pc + 4) = .ok (.invokespecial ic, 3)) (d7 : decode cc (pc + 7) = .ok (.athrow, 1))
    (hout : ∀ x ∈ c.exceptionTable.toList, covers x (pc + 7) = false)
    (hRframes : names.length + 3 < R.frames) (hRlocals : (rest.map fun v => v.category).sum + (13 * (names.length + 1) + 42) ≤ R.locals) (hRcells : cells + 1 ≤ R.cells) (hRslots : slots + 6 ≤ R.slots) (hlocks : meth.locks = false)
    (hx : ∀ t : State, s.vm.Alike t.vm → H.size ≤ t.heap.size → (∀ q : Nat, q < H.size → t.heap[q]? = H[q]?) → XC cls s t)
    (hf : ∀ z ∈ locs, free z.base) (hc : cells + 1 ≤ mc) (hs : slots + 6 ≤ ms) :
    W p l e R s m args below meth c H locs cells slots (vx_MQ below Qc XC args s mc ms free) (F0 m pc ls rest) := by
  intro T hT X
  have htr : e.platform.stackTraces = false := (show e.platform.stackTraces = l.stackTraces by rw [X.admits.platform]).trans hl
  have Y := vx_rebase X (R' := { frames := R.frames, locals := R.locals, cells := 1, slots := 6 }) (Nat.le_refl _) (Nat.le_refl _) hRcells hRslots
  obtain ⟨s', hA⟩ : ∃ z, z = (T.setVm s.vm).setFrames (.invoking m args :: below) := ⟨_, rfl⟩
  rw [← hA] at Y
  have hvm : s'.vm = s.vm := by rw [hA]; rfl
  have hhp : s'.heap = H := by rw [hA]; exact hT
  have hW0 : s.WarmedH s'.vm := by rw [hvm]; exact State.WarmedH.refl s
  have hat' : ∀ w ∈ vx_at0 own ic cls names, w.before args s' = true := fun w hw => vx_ot_at hW0 hvm.symm (hgood w (List.mem_cons_of_mem _ (List.mem_cons_of_mem _ hw))) (hat w hw)
  have hk' : (Cond.classLink own ik cls).before args s' = true := vx_ot_at hW0 hvm.symm (hgood _ List.mem_cons_self) hk
  have hini' : (Cond.initialized cls).before args s' = true := vx_ot_at hW0 hvm.symm (hgood _ (List.mem_cons_of_mem _ List.mem_cons_self)) hini
  have hU' : vx_Zq Bundle.tN "UNASSIGNED_STACK" Bundle.steD A s' s'.heap := by rw [hhp]; exact vx_Zq.moved hW0.alike (hU.kept hS.2.1)
  have hN' : vx_Zq Bundle.tN "SUPPRESSED_SENTINEL" Bundle.listD A s' s'.heap := by rw [hhp]; exact vx_Zq.moved hW0.alike (hN.kept hS.2.1)
  have h : ∀ w ∈ Bundle.ownAtoms0 own ic cls names, w.before args s' = true := vx_own hat' (vx_isRefq hU'.1) (vx_isRefq hN'.1) hU'.2.word hN'.2.word
  have hown' : s'.vm.findClass own = some m.cls := by rw [hvm]; exact hown
  have hins : (Cond.instantiable cls 6).before args s' = true := h _ (by simp [Bundle.ownAtoms0])
  obtain ⟨vm₁, cX, kX, hfX, hkX, -, -, X₁, st1⟩ := Y.newCold hexec (own := own) (C := cls) (index := ik) (n := 6) hown' hk' hins hini'
    (g := F0 m pc ls rest) rfl (by rw [hb]; exact d0) (Nat.le_refl _) (Nat.le_refl _)
  generalize hT1 : (T.setVm vm₁).pushCell { cls := cX, slots := kX.instanceTypes.map defaultValue, vm := .none } = T1 at X₁ st1
  have hcat : (Value.ref T.heap.size).category = 1 := rfl
  have hcellA : T1.heap[T.heap.size]? = some (freshCell cX kX) := by rw [← hT1]; exact State.heap_pushCell_size _ _
  have d3' : decode c.code (pc + 3) = .ok (.dup, 1) := by rw [hb]; exact d3
  obtain ⟨U, hsteps, hrun, hend, hW, hsame, ce, hce, hO⟩ := X₁.ctorThrow0 hexec htr (own := own) (cls := cls) (names := names) (ic := ic) hown' hcls hnames h (fun x hx => nomatch hx) hfX hkX hcellA (by rw [hhp, hT]; exact Nat.le_refl _)
    (g := { method := m, pc := pc + 4, locals := ls, stack := .ref T.heap.size :: .ref T.heap.size :: rest, locked := none }) rfl hsize rfl rfl (rest := rest) rfl
    (by rw [hb]; exact d4) (by rw [hb]; exact d7) hout hRframes (by simp only [List.map_cons, List.sum_cons, hcat]; omega) hlocks
  obtain ⟨f1, f2⟩ := vx_frame hsame
  rw [hhp] at f1 f2
  have hWs : s.WarmedH U.vm := State.WarmedH.trans hW0 hW
  have hcl : s.vm.findClass cls = some ce.cls := by
    have h9 := hO.cls
    rw [hvm] at h9
    exact h9
  have hall : s.sameButNew ({ U with vm := s.vm } : State) locs mc ms := by
    subst hA
    obtain ⟨e1, e2⟩ := hsame
    rw [State.setFrames_setFrames] at e1
    have h2 : (T.setVm s.vm).sameButNew ({ U with vm := s.vm } : State) [] (0 + 1) (0 + 6) := ⟨e1, e2⟩
    have h3 := X.same.trans h2
    rw [List.append_nil] at h3
    exact h3.mono hc hs
  refine ⟨U, ?_, .threw T.heap.size, hrun, hend, Or.inr ⟨T.heap.size, rfl, cls, ce, locs, hx U hWs.alike f1 (fun q hq => f2 q hq (fun z hz => nomatch hz)), hce, hO.vm, hcl, hWs, hall, hf⟩⟩
  refine st1 _ ?_
  show Steps p.tables e below (T1.setTop { method := m, pc := pc + 3, locals := ls, stack := .ref T.heap.size :: rest, locked := none }) _
  jvm_step X₁.here [X₁.here.top, hexec, d3', Value.category]
  exact hsteps
/-- 'throw new E("text")': new; dup; ldc; invokespecial; athrow -/
theorem vx_throwS {cc : ByteArray} {pc : Nat} (hexec : p.tables.exec = Jvm.exec) (hb : c.code = cc) (hl : l.stackTraces = false) {own cls text : String} {names : List String} {ik is ic mc ms sa : Nat} {A : Nat → Prop}
    (hown : s.vm.findClass own = some m.cls) (hcls : Bundle.fit cls = true) (hnames : ∀ n ∈ names, Bundle.fit n = true)
    (hk : (Cond.classLink own ik cls).before args s = true) (hini : (Cond.initialized cls).before args s = true) (hstr : vk_R own is text sa s) (hat : ∀ w ∈ vx_atS own ic cls names, w.before args s = true)
    (hgood : ∀ w ∈ Cond.classLink own ik cls :: Cond.initialized cls :: vx_atS own ic cls names, vx_ot w = true)
    (hU : vx_Zq Bundle.tN "UNASSIGNED_STACK" Bundle.steD A s s.heap) (hN : vx_Zq Bundle.tN "SUPPRESSED_SENTINEL" Bundle.listD A s s.heap) (hS : va_S A s.heap H locs) (hsize : ls.size = c.maxLocals)
    (d0 : decode cc pc = .ok (.new ik, 3)) (d3 : decode cc (pc + 3) = .ok (.dup, 1)) (d4 : decode cc (pc + 4) = .ok (.ldc is, 2)) (d6 : decode cc (pc + 6) = .ok (.invokespecial ic, 3)) (d9 : decode cc (pc + 9) = .ok (.athrow, 1))
    (hout : ∀ x ∈ c.exceptionTable.toList, covers x (pc + 9) = false)
    (hRframes : names.length + 3 < R.frames) (hRlocals : (rest.map fun v => v.category).sum + (13 * (names.length + 1) + 43) ≤ R.locals) (hRcells : cells + 1 ≤ R.cells) (hRslots : slots + 6 ≤ R.slots) (hlocks : meth.locks = false)
    (hx : ∀ t : State, s.vm.Alike t.vm → H.size ≤ t.heap.size → (∀ q : Nat, q < H.size → t.heap[q]? = H[q]?) → XC cls s t)
    (hf : ∀ z ∈ locs, free z.base) (hc : cells + 1 ≤ mc) (hs : slots + 6 ≤ ms) :
    W p l e R s m args below meth c H locs cells slots (vx_MQ below Qc XC args s mc ms free) (F0 m pc ls rest) := by
  intro T hT X
  have htr : e.platform.stackTraces = false := (show e.platform.stackTraces = l.stackTraces by rw [X.admits.platform]).trans hl
  have Y := vx_rebase X (R' := { frames := R.frames, locals := R.locals, cells := 1, slots := 6 }) (Nat.le_refl _) (Nat.le_refl _) hRcells hRslots
  obtain ⟨s', hA⟩ : ∃ z, z = (T.setVm s.vm).setFrames (.invoking m args :: below) := ⟨_, rfl⟩
  rw [← hA] at Y
  have hvm : s'.vm = s.vm := by rw [hA]; rfl
  have hhp : s'.heap = H := by rw [hA]; exact hT
  have hW0 : s.WarmedH s'.vm := by rw [hvm]; exact State.WarmedH.refl s
  have hat' : ∀ w ∈ vx_atS own ic cls names, w.before args s' = true := fun w hw => vx_ot_at hW0 hvm.symm (hgood w (List.mem_cons_of_mem _ (List.mem_cons_of_mem _ hw))) (hat w hw)
  have hk' : (Cond.classLink own ik cls).before args s' = true := vx_ot_at hW0 hvm.symm (hgood _ List.mem_cons_self) hk
  have hini' : (Cond.initialized cls).before args s' = true := vx_ot_at hW0 hvm.symm (hgood _ (List.mem_cons_of_mem _ List.mem_cons_self)) hini
  have hU' : vx_Zq Bundle.tN "UNASSIGNED_STACK" Bundle.steD A s' s'.heap := by rw [hhp]; exact vx_Zq.moved hW0.alike (hU.kept hS.2.1)
  have hN' : vx_Zq Bundle.tN "SUPPRESSED_SENTINEL" Bundle.listD A s' s'.heap := by rw [hhp]; exact vx_Zq.moved hW0.alike (hN.kept hS.2.1)
  have h : ∀ w ∈ Bundle.ownAtoms own ic cls names, w.before args s' = true := vx_own hat' (vx_isRefq hU'.1) (vx_isRefq hN'.1) hU'.2.word hN'.2.word
  have hown' : s'.vm.findClass own = some m.cls := by rw [hvm]; exact hown
  have hins : (Cond.instantiable cls 6).before args s' = true := h _ (by simp [Bundle.ownAtoms])
  obtain ⟨vm₁, cX, kX, hfX, hkX, -, -, X₁, st1⟩ := Y.newCold hexec (own := own) (C := cls) (index := ik) (n := 6) hown' hk' hins hini'
    (g := F0 m pc ls rest) rfl (by rw [hb]; exact d0) (Nat.le_refl _) (Nat.le_refl _)
  generalize hT1 : (T.setVm vm₁).pushCell { cls := cX, slots := kX.instanceTypes.map defaultValue, vm := .none } = T1 at X₁ st1
  have hcat : (Value.ref T.heap.size).category = 1 := rfl
  have hcellA : T1.heap[T.heap.size]? = some (freshCell cX kX) := by rw [← hT1]; exact State.heap_pushCell_size _ _
  have d3' : decode c.code (pc + 3) = .ok (.dup, 1) := by rw [hb]; exact d3
  have d4' : decode c.code (pc + 4) = .ok (.ldc is, 2) := by rw [hb]; exact d4
  have hstr' : vk_R own is text sa s' := vk_R.warm hW0 hstr
  obtain ⟨U, hsteps, hrun, hend, hW, hsame, ce, hce, hO⟩ := X₁.ctorThrowS hexec htr (own := own) (cls := cls) (names := names) (ic := ic) hown' hcls hnames h (fun x hx => nomatch hx) hfX hkX hcellA (by rw [hhp, hT]; exact Nat.le_refl _) (msg := .ref sa) rfl
    (g := { method := m, pc := pc + 6, locals := ls, stack := .ref sa :: .ref T.heap.size :: .ref T.heap.size :: rest, locked := none }) rfl hsize rfl rfl (rest := rest) rfl
    (by rw [hb]; exact d6) (by rw [hb]; exact d9) hout hRframes (by simp only [List.map_cons, List.sum_cons, hcat]; omega) hlocks
  obtain ⟨f1, f2⟩ := vx_frame hsame
  rw [hhp] at f1 f2
  have hWs : s.WarmedH U.vm := State.WarmedH.trans hW0 hW
  have hcl : s.vm.findClass cls = some ce.cls := by
    have h9 := hO.cls
    rw [hvm] at h9
    exact h9
  have hall : s.sameButNew ({ U with vm := s.vm } : State) locs mc ms := by
    subst hA
    obtain ⟨e1, e2⟩ := hsame
    rw [State.setFrames_setFrames] at e1
    have h2 : (T.setVm s.vm).sameButNew ({ U with vm := s.vm } : State) [] (0 + 1) (0 + 6) := ⟨e1, e2⟩
    have h3 := X.same.trans h2
    rw [List.append_nil] at h3
    exact h3.mono hc hs
  refine ⟨U, ?_, .threw T.heap.size, hrun, hend, Or.inr ⟨T.heap.size, rfl, cls, ce, locs, hx U hWs.alike f1 (fun q hq => f2 q hq (fun z hz => nomatch hz)), hce, hO.vm, hcl, hWs, hall, hf⟩⟩
  refine st1 _ ?_
  show Steps p.tables e below (T1.setTop { method := m, pc := pc + 3, locals := ls, stack := .ref T.heap.size :: rest, locked := none }) _
  jvm_step X₁.here [X₁.here.top, hexec, d3', Value.category]
  exact X₁.ldcString hexec (own := own) (text := text) (index := is) (a := sa) hown' hstr'.1 hstr'.2
    (g := { method := m, pc := pc + 4, locals := ls, stack := .ref T.heap.size :: .ref T.heap.size :: rest, locked := none }) rfl d4' _ hsteps
/-- 'throw new E("text")', the text by a wide index -/
theorem vx_throwSW {cc : ByteArray} {pc : Nat} (hexec : p.tables.exec = Jvm.exec) (hb : c.code = cc) (hl : l.stackTraces = false) {own cls text : String} {names : List String} {ik is ic mc ms sa : Nat} {A : Nat → Prop}
    (hown : s.vm.findClass own = some m.cls) (hcls : Bundle.fit cls = true) (hnames : ∀ n ∈ names, Bundle.fit n = true)
    (hk : (Cond.classLink own ik cls).before args s = true) (hini : (Cond.initialized cls).before args s = true) (hstr : vk_R own is text sa s) (hat : ∀ w ∈ vx_atS own ic cls names, w.before args s = true)
    (hgood : ∀ w ∈ Cond.classLink own ik cls :: Cond.initialized cls :: vx_atS own ic cls names, vx_ot w = true)
    (hU : vx_Zq Bundle.tN "UNASSIGNED_STACK" Bundle.steD A s s.heap) (hN : vx_Zq Bundle.tN "SUPPRESSED_SENTINEL" Bundle.listD A s s.heap) (hS : va_S A s.heap H locs) (hsize : ls.size = c.maxLocals)
    (d0 : decode cc pc = .ok (.new ik, 3)) (d3 : decode cc (pc + 3) = .ok (.dup, 1)) (d4 : decode cc (pc + 4) = .ok (.ldc_w is, 3)) (d7 : decode cc (pc + 7) = .ok (.invokespecial ic, 3)) (d10 : decode cc (pc + 10) = .ok (.athrow, 1))
    (hout : ∀ x ∈ c.exceptionTable.toList, covers x (pc + 10) = false)
    (hRframes : names.length + 3 < R.frames) (hRlocals : (rest.map fun v => v.category).sum + (13 * (names.length + 1) + 43) ≤ R.locals) (hRcells : cells + 1 ≤ R.cells) (hRslots : slots + 6 ≤ R.slots) (hlocks : meth.locks = false)
    (hx : ∀ t : State, s.vm.Alike t.vm → H.size ≤ t.heap.size → (∀ q : Nat, q < H.size → t.heap[q]? = H[q]?) → XC cls s t)
    (hf : ∀ z ∈ locs, free z.base) (hc : cells + 1 ≤ mc) (hs : slots + 6 ≤ ms) :
    W p l e R s m args below meth c H locs cells slots (vx_MQ below Qc XC args s mc ms free) (F0 m pc ls rest) := by
  intro T hT X
  have htr : e.platform.stackTraces = false := (show e.platform.stackTraces = l.stackTraces by rw [X.admits.platform]).trans hl
  have Y := vx_rebase X (R' := { frames := R.frames, locals := R.locals, cells := 1, slots := 6 }) (Nat.le_refl _) (Nat.le_refl _) hRcells hRslots
  obtain ⟨s', hA⟩ : ∃ z, z = (T.setVm s.vm).setFrames (.invoking m args :: below) := ⟨_, rfl⟩
  rw [← hA] at Y
  have hvm : s'.vm = s.vm := by rw [hA]; rfl
  have hhp : s'.heap = H := by rw [hA]; exact hT
  have hW0 : s.WarmedH s'.vm := by rw [hvm]; exact State.WarmedH.refl s
  have hat' : ∀ w ∈ vx_atS own ic cls names, w.before args s' = true := fun w hw => vx_ot_at hW0 hvm.symm (hgood w (List.mem_cons_of_mem _ (List.mem_cons_of_mem _ hw))) (hat w hw)
  have hk' : (Cond.classLink own ik cls).before args s' = true := vx_ot_at hW0 hvm.symm (hgood _ List.mem_cons_self) hk
  have hini' : (Cond.initialized cls).before args s' = true := vx_ot_at hW0 hvm.symm (hgood _ (List.mem_cons_of_mem _ List.mem_cons_self)) hini
  have hU' : vx_Zq Bundle.tN "UNASSIGNED_STACK" Bundle.steD A s' s'.heap := by rw [hhp]; exact vx_Zq.moved hW0.alike (hU.kept hS.2.1)
  have hN' : vx_Zq Bundle.tN "SUPPRESSED_SENTINEL" Bundle.listD A s' s'.heap := by rw [hhp]; exact vx_Zq.moved hW0.alike (hN.kept hS.2.1)
  have h : ∀ w ∈ Bundle.ownAtoms own ic cls names, w.before args s' = true := vx_own hat' (vx_isRefq hU'.1) (vx_isRefq hN'.1) hU'.2.word hN'.2.word
  have hown' : s'.vm.findClass own = some m.cls := by rw [hvm]; exact hown
  have hins : (Cond.instantiable cls 6).before args s' = true := h _ (by simp [Bundle.ownAtoms])
  obtain ⟨vm₁, cX, kX, hfX, hkX, -, -, X₁, st1⟩ := Y.newCold hexec (own := own) (C := cls) (index := ik) (n := 6) hown' hk' hins hini'
    (g := F0 m pc ls rest) rfl (by rw [hb]; exact d0) (Nat.le_refl _) (Nat.le_refl _)
  generalize hT1 : (T.setVm vm₁).pushCell { cls := cX, slots := kX.instanceTypes.map defaultValue, vm := .none } = T1 at X₁ st1
  have hcat : (Value.ref T.heap.size).category = 1 := rfl
  have hcellA : T1.heap[T.heap.size]? = some (freshCell cX kX) := by rw [← hT1]; exact State.heap_pushCell_size _ _
  have d3' : decode c.code (pc + 3) = .ok (.dup, 1) := by rw [hb]; exact d3
  have d4' : decode c.code (pc + 4) = .ok (.ldc_w is, 3) := by rw [hb]; exact d4
  have hstr' : vk_R own is text sa s' := vk_R.warm hW0 hstr
  obtain ⟨U, hsteps, hrun, hend, hW, hsame, ce, hce, hO⟩ := X₁.ctorThrowS hexec htr (own := own) (cls := cls) (names := names) (ic := ic) hown' hcls hnames h (fun x hx => nomatch hx) hfX hkX hcellA (by rw [hhp, hT]; exact Nat.le_refl _) (msg := .ref sa) rfl
    (g := { method := m, pc := pc + 7, locals := ls, stack := .ref sa :: .ref T.heap.size :: .ref T.heap.size :: rest, locked := none }) rfl hsize rfl rfl (rest := rest) rfl
    (by rw [hb]; exact d7) (by rw [hb]; exact d10) hout hRframes (by simp only [List.map_cons, List.sum_cons, hcat]; omega) hlocks
  obtain ⟨f1, f2⟩ := vx_frame hsame
  rw [hhp] at f1 f2
  have hWs : s.WarmedH U.vm := State.WarmedH.trans hW0 hW
  have hcl : s.vm.findClass cls = some ce.cls := by
    have h9 := hO.cls
    rw [hvm] at h9
    exact h9
  have hall : s.sameButNew ({ U with vm := s.vm } : State) locs mc ms := by
    subst hA
    obtain ⟨e1, e2⟩ := hsame
    rw [State.setFrames_setFrames] at e1
    have h2 : (T.setVm s.vm).sameButNew ({ U with vm := s.vm } : State) [] (0 + 1) (0 + 6) := ⟨e1, e2⟩
    have h3 := X.same.trans h2
    rw [List.append_nil] at h3
    exact h3.mono hc hs
  refine ⟨U, ?_, .threw T.heap.size, hrun, hend, Or.inr ⟨T.heap.size, rfl, cls, ce, locs, hx U hWs.alike f1 (fun q hq => f2 q hq (fun z hz => nomatch hz)), hce, hO.vm, hcl, hWs, hall, hf⟩⟩
  refine st1 _ ?_
  show Steps p.tables e below (T1.setTop { method := m, pc := pc + 3, locals := ls, stack := .ref T.heap.size :: rest, locked := none }) _
  jvm_step X₁.here [X₁.here.top, hexec, d3', Value.category]
  exact X₁.ldcStringW hexec (own := own) (text := text) (index := is) (a := sa) hown' hstr'.1 hstr'.2
    (g := { method := m, pc := pc + 4, locals := ls, stack := .ref T.heap.size :: .ref T.heap.size :: rest, locked := none }) rfl d4' _ hsteps
end Ends
section Bodies
variable {l : Launch}
theorem vx_ofW {y : MethodName} {ws ws' : List Cond} {rm : Room} {Pc : Array Value → State → Prop} {Qc : Array Value → State → Outcome → State → Prop} {XC : String → State → State → Prop} {mc ms : Nat} {free : Addr → Prop} {cc : ByteArray} {maxL : Nat} {ret : Option FieldType}
    (hy : plainName y.cls = true) (hw : ws = Cond.code y cc maxL ret :: ws')
    (body : ∀ p e s m args below meth c s₁, BodyLoose p l y (headSpec ws rm) cc maxL ret e s m args below meth c s₁ → c.maxLocals = maxL → (∀ x ∈ c.exceptionTable.toList, False) → Pc args s →
      W p l e (headSpec ws rm).room s m args below meth c s.heap [] 0 0 (vx_MQ below Qc XC args s mc ms free) (entryFrame m args maxL)) : vx_Met l y ws rm Pc Qc XC mc ms free := by
  refine MetFree.of_bodyS (code := cc) (maxLocals := maxL) (ret := ret) hy ?_ ?_
  · intro args s m h hn
    obtain ⟨meth, c, h1, h2, h3, h4, h5, h6, -, -⟩ := Cond.code_spec hn (atoms_spec (ws := ws) h _ (by rw [hw]; exact List.mem_cons_self))
    exact ⟨meth, c, h1, h2, h3, h4, h5, h6⟩
  · intro p e s m args below meth c s₁ B hml hP _
    have hh0 : s₁.heap = s.heap := by rw [B.state]; rfl
    have ht : ∀ x ∈ c.exceptionTable.toList, False := by
      obtain ⟨meth9, c9, h1, h2, -, -, -, -, h7, -⟩ := Cond.code_spec B.named (atoms_spec (ws := ws) B.pre _ (by rw [hw]; exact List.mem_cons_self))
      cases Option.some.inj (h1.symm.trans B.method)
      cases Option.some.inj (h2.symm.trans (Stand.of_body B).code)
      intro x hx
      rw [Array.isEmpty_iff.mp h7] at hx
      cases hx
    obtain ⟨t, a1, o, b1, b2, b3⟩ := body p e s m args below meth c s₁ B hml ht hP s₁ hh0 (Stand.of_body B)
    exact ⟨t, o, a1, b1, b2, b3⟩
/-- the table of a body with handlers -/
theorem vx_table {p : Program} {x y : MethodName} {S : Spec} {cc bytes : ByteArray} {maxL maxL' : Nat} {ret ret' : Option FieldType} {e : Env} {s s₁ : State} {m : MethodId} {args : Array Value} {below : List Frame} {meth : Method} {c : Code} {hh : List (Nat × Nat × Nat × Nat)}
    (B : BodyLoose p l y S cc maxL ret e s m args below meth c s₁) (h : (Cond.codeWith y bytes maxL' ret' hh).before args s = true) : c.exceptionTable.toList = tableOf hh := by
  obtain ⟨m9, meth9, c9, hn9, h1, h2, -, -, h6, -⟩ := Cond.codeWith_spec h
  cases Option.some.inj (hn9.symm.trans B.named)
  cases Option.some.inj (h1.symm.trans B.method)
  cases Option.some.inj (h2.symm.trans (Stand.of_body B).code)
  rw [← h6, table_eq]
end Bodies
end VXA
/-! ===== END ===== -/
/-! ===== BEGIN a static call of a method with an exception table ===== -/
section VXS
variable {p : Program} {l : Launch} {e : Env} {R : Room} {s : State} {m : MethodId} {args : Array Value} {below : List Frame} {meth : Method} {c : Code} {T : State} {H : Heap} {locs : List Loc} {cells slots : Nat}
abbrev vx_CSW (R : Room) (s : State) (args : Array Value) (own : String) (index : Nat) (y : MethodName) (bytes : ByteArray) (maxL : Nat) (ret : Option FieldType) (hh : List (Nat × Nat × Nat × Nat)) (ws : List Cond) (rm : Room) (mc ms n : Nat) : Prop :=
  (rm.cells = mc ∧ rm.slots = ms ∧ rm.frames + 1 ≤ R.frames ∧ 8 + (maxL + 11) + rm.locals ≤ R.locals ∧ (∀ w ∈ ws, ∀ (a' : Array Value) (U : State), s.WarmedH U.vm → w.before a' U = true) ∧ Cond.codeWith y bytes maxL ret hh ∈ ws) ∧
  (Cond.codeWith y bytes maxL ret hh).before args s = true ∧ (Cond.initialized y.cls).before args s = true ∧ (y.cls ≠ "java/lang/invoke/MethodHandle" ∧ y.cls ≠ "java/lang/invoke/VarHandle") ∧
  (∀ sig, parseMethodDescriptor y.desc = some sig → n = sig.parameters.length) ∧ (Cond.methodLink own index y).before args s = true ∧ (Cond.static y).before args s = true
theorem vx_cwSW {own : String} {index maxL mc ms : Nat} {y : MethodName} {bytes : ByteArray} {ret : Option FieldType} {hh : List (Nat × Nat × Nat × Nat)} {Ts ws ws' : List Cond} {rm : Room} (n : Nat) (ht : ∀ w ∈ Ts, w.before args s = true) (hT : GoodIn Ts (va_wsS own index y ws)) (hw : ws = Cond.codeWith y bytes maxL ret hh :: ws') (hrc : rm.cells = mc) (hrs : rm.slots = ms)
    (hd : y.cls ≠ "java/lang/invoke/MethodHandle" ∧ y.cls ≠ "java/lang/invoke/VarHandle" ∧ (parseMethodDescriptor y.desc).map (fun d => d.parameters.length) = some n) (hR : rm.frames + 1 ≤ R.frames ∧ 8 + (maxL + 11) + rm.locals ≤ R.locals) :
    vx_CSW R s args own index y bytes maxL ret hh ws rm mc ms n := by
  have ok : ∀ w ∈ va_wsS own index y ws, w.before args s = true := fun w h => ht w (hT w h).1
  have hG : GoodIn Ts ws := fun w h => hT w (by unfold va_wsS; exact List.mem_append_right _ h)
  have hc : Cond.codeWith y bytes maxL ret hh ∈ ws := by rw [hw]; exact List.mem_cons_self
  refine ⟨⟨hrc, hrs, hR.1, hR.2, pay_in ht hG, hc⟩, ht _ (hG _ hc).1, ok _ (by simp [va_wsS]), ⟨hd.1, hd.2.1⟩, fun sig h => ?_, ok _ (by simp [va_wsS]), ok _ (by simp [va_wsS])⟩
  have h2 := hd.2.2
  rw [h] at h2
  exact (Option.some.inj h2).symm
theorem vx_callSW (X : Stand p l e R s m args below meth c T locs cells slots) (hexec : p.tables.exec = Jvm.exec) {own : String} {index : Nat} {y : MethodName} {bytes : ByteArray} {maxL : Nat} {ret : Option FieldType} {hh : List (Nat × Nat × Nat × Nat)}
    (hown : s.vm.findClass own = some m.cls) (hlink : (Cond.methodLink own index y).before args s = true) (hstat : (Cond.static y).before args s = true) (hinit : (Cond.initialized y.cls).before args s = true)
    (hcode : (Cond.codeWith y bytes maxL ret hh).before args s = true) (hy : y.cls ≠ "java/lang/invoke/MethodHandle" ∧ y.cls ≠ "java/lang/invoke/VarHandle")
    {W9 : Nat} {Pre : Pt → Array Value → Prop} {Post : Pt → Array Value → Option Value → Pt → Prop} (hK : Back l R p e below s args y 3 W9 Pre Post)
    {g : JFrame} (hg : g.method = m) (hsize : g.locals.size = c.maxLocals) {argsL rest : List Value} (hlen : ∀ sig, parseMethodDescriptor y.desc = some sig → argsL.length = sig.parameters.length)
    (hstack : g.stack = argsL.reverse ++ rest) (hW : 2 * g.monitorRoom + (rest.map fun v => v.category).sum ≤ W9) (hdg : decode c.code g.pc = .ok (.invokestatic index, 3))
    (hpre : ∀ vm₁, s.WarmedH vm₁ → Pre ⟨T.setVm vm₁, locs, cells, slots⟩ argsL.toArray) :
    ∃ (v : Option Value) (vm₁ : Vm) (B : Pt), s.WarmedH vm₁ ∧ Stand p l e R s m args below meth c B.U B.locs B.cells B.slots ∧ Post ⟨T.setVm vm₁, locs, cells, slots⟩ argsL.toArray v B ∧
      ∀ target, Steps p.tables e below (B.U.setTop { g with pc := g.pc + 3, stack := v.toList ++ rest }) target → Steps p.tables e below (T.setTop g) target := by
  obtain ⟨mk, methM, cM, hnamed, hmethM, -, -, -, -, -, -, hsigM⟩ := Cond.codeWith_spec hcode
  have hstatic : methM.isStatic = true := Cond.static_spec hnamed hmethM hstat
  obtain ⟨kP, hkP, -⟩ := className_of_methodNamed hnamed
  have hinitP : kP.init = .initialized := Cond.initialized_spec (findClass_of_methodNamed hnamed) hkP hinit
  obtain ⟨vm₁, X₁, hstep₁⟩ := X.invokestatic hexec hown hlink hnamed hmethM hstatic hkP hinitP hy (g := g) hg (argsL := argsL) (rest := rest) (hlen _ hsigM) hstack hdg
  obtain ⟨v, B, X', hpost, hsteps⟩ := hK m meth c ⟨T.setVm vm₁, locs, cells, slots⟩ { g with stack := rest } (.invokestatic index) mk argsL.toArray X₁ hg hsize hdg hW (X₁.named hnamed) (hpre vm₁ X₁.warmed)
  exact ⟨v, vm₁, B, X₁.warmed, X', hpost, fun target h => hstep₁ _ fun acts => by rw [doInvoke_state]; exact hsteps.trans h⟩
theorem vx_runSW {y : MethodName} {bytes cc : ByteArray} {maxL nL mc ms n index : Nat} {ret : Option FieldType} {hh : List (Nat × Nat × Nat × Nat)} {ws : List Cond} {rm : Room} {Pc : Array Value → State → Prop} {Qc : Array Value → State → Outcome → State → Prop} {free : Addr → Prop} {Ts : List Cond} {own : String} {As rest : List Value} {g : JFrame}
    (S : CallFix p m c cc nL s args Ts own) (hM : Met l y ws rm Pc Qc mc ms free) (cw : vx_CSW R s args own index y bytes maxL ret hh ws rm mc ms n) (hp : PreS s H Pc As)
    (hg : g.method = m) (hn : As.length = n) (hsize : g.locals.size = nL) (hstack : g.stack = As.reverse ++ rest) (hW : 2 * g.monitorRoom + (rest.map fun v => v.category).sum ≤ 8) (hdg : decode cc g.pc = .ok (.invokestatic index, 3)) (hf : cells + mc ≤ R.cells ∧ slots + ms ≤ R.slots) :
    va_Run p l e R s m args below meth c H locs cells slots mc ms g rest (Qc As.toArray) (free) := by
  obtain ⟨⟨hrc, hrs, hfr, hlo, hws, hcw⟩, hcode, hini, hy, hlen, hl, hstt⟩ := cw
  have hK : Back l R p e below s args y 3 8 (PreOf R mc ms Pc) (PostOf Qc mc ms free) := va_backW (hh := hh) (bytes := bytes) (maxL := maxL) (ret := ret) hM hp.1 hrc hrs hfr hlo hws hcw (fun a' U hW => word_at hW (Or.inl (by first | rfl | simp [Cond.onTables, Cond.keeps, Cond.steady])) hini)
  obtain ⟨hx, hb, hml, ho, -⟩ := S
  intro T hT X
  obtain ⟨v, vm₁, ⟨U', l2, c2, s2⟩, hW₁, X', ⟨g', mk, t, L, e1, e2, hq, h1, hL, h2, h3⟩, st⟩ := vx_callSW X hx (hh := hh) (bytes := bytes) (maxL := maxL) (ret := ret) ho hl hstt hini hcode hy hK hg (hsize.trans hml.symm) (argsL := As) (rest := rest) (fun sig h => hn.trans (hlen sig h)) hstack hW (by rw [hb]; exact hdg)
    (fun vm₁ hW₁ => ⟨hf.1, hf.2, hp.2 (T.setVm vm₁) hT hW₁⟩)
  dsimp only [Pt.U, Pt.locs, Pt.cells, Pt.slots] at X' e1 e2 h1 h2 h3 st
  subst h1; subst h2; subst h3
  exact ⟨v, (T.setVm vm₁).calling g' mk As.toArray, t, U', L, hT, X', hL, e1, e2, hq, st⟩
/-- a thing of a world lies in the heap -/
theorem vx_lt {D : va_G} {cl : List vw_C} {ws : va_W} {H1 : Heap} (h : va_P D cl ws H1) {k : Nat} {q : Nat × va_E} (hk : ws[k]? = some q) : q.1 < H1.size := (h k q hk).lt
end VXS
/-! ===== END ===== -/
/-! ===== BEGIN methods with a table of their own: called by a name, returning or throwing ===== -/
section VXH
/-! vx_backW, vx_callVX, vx_callSX, vx_callVW, vx_runVW, vx_runVX, vx_runSX, vx_ofWH follow the same proofs as their sisters above (Free/Laws.lean, Shelf42/LK1.lean); vx_outP calls Shelf42/NT130.lean (outThrough). -/
section
variable {l : Launch} {R : Room} {p : Program} {e : Env} {below : List Frame} {s : State} {sargs : Array Value} {y : MethodName} {len W9 : Nat}
theorem vx_backW {ws : List Cond} {rm : Room} {Pc : Array Value → State → Prop} {Qc : Array Value → State → Outcome → State → Prop} {XC : String → State → State → Prop} {mc ms : Nat} {free : Addr → Prop} {bytes : ByteArray} {maxL : Nat} {ret : Option FieldType} {hh : List (Nat × Nat × Nat × Nat)}
    (hM : vx_Met l y ws rm Pc Qc XC mc ms free) (hblind : FrameBlind Pc) (hrc : rm.cells = mc) (hrs : rm.slots = ms)
    (hframes : rm.frames + 1 ≤ R.frames) (hlocals : W9 + (maxL + 11) + rm.locals ≤ R.locals)
    (hws : ∀ w ∈ ws, ∀ a' U, s.WarmedH U.vm → w.before a' U = true) (hcode : Cond.codeWith y bytes maxL ret hh ∈ ws) (hinit : ∀ a' U, s.WarmedH U.vm → (Cond.initialized y.cls).before a' U = true) :
    vx_Back l R p e below s sargs y len W9 (PreOf R mc ms Pc) (PostOf Qc mc ms free) (vx_Post XC mc ms free) := by
  intro m meth c A g ig mk a X hg hsize hdg hW hn hp
  have h1 : (headSpec ws rm).pre.before a A.U = true := atoms_intro fun w hw => hws w hw _ _ X.warmed
  have h2 : (Cond.codeWith y bytes maxL ret hh).before a A.U = true := hws _ hcode _ _ X.warmed
  have h3 : (Cond.initialized y.cls).before a A.U = true := hinit _ _ X.warmed
  have h4 : A.cells + (headSpec ws rm).room.cells ≤ R.cells := by rw [show (headSpec ws rm).room.cells = mc from hrc]; exact hp.1
  have h5 : A.slots + (headSpec ws rm).room.slots ≤ R.slots := by rw [show (headSpec ws rm).room.slots = ms from hrs]; exact hp.2.1
  have hPc : Pc a (A.U.calling g mk a) := hblind _ _ _ _ hp.2.2
  obtain ⟨U, Ls, c0, s0⟩ := A
  dsimp only [Pt.U, Pt.locs, Pt.cells, Pt.slots] at h1 h2 h3 h4 h5 X hn hPc ⊢
  obtain ⟨m9, methY, cY, hn9, hmY, hcY, -, hlY, -⟩ := Cond.codeWith_spec h2
  cases Option.some.inj (hn9.symm.trans hn)
  obtain ⟨kY, hkY, -⟩ := className_of_methodNamed hn
  have hinitY : kY.init = .initialized := Cond.initialized_spec (findClass_of_methodNamed hn) hkY h3
  have h : At U g.method c below := by rw [hg]; exact X.here
  have hlocals9 : W9 + (maxL + 11) + (headSpec ws rm).room.locals ≤ R.locals := hlocals
  have happ : (headSpec ws rm).appliesLoose y e.platform (U.calling g mk a) = true :=
    Spec.appliesLoose_calling (g := g) h hdg hn hkY hinitY
      (X.room_calling (g := g) (R' := (headSpec ws rm).room) hsize hmY hcY hframes (by rw [hlY]; omega) h4 h5) h1
  obtain ⟨mid, hmid⟩ := h.above
  have hfr : (U.setTop g).frames = (.java g :: mid) ++ below := by rw [State.frames_setTop' g h.top, hmid]; rfl
  obtain ⟨o, s₂, hsteps, -, hend, hq⟩ := Steps.callFree hM p X.admits X.cas X.clock (acts := []) hfr happ hPc trivial
  have hq' : vx_Q Qc XC mc ms free a (U.calling g mk a) o s₂ := hq
  rw [State.frames_setTop' g h.top] at hend
  obtain ⟨g₀, hg0⟩ := Option.isSome_iff_exists.mp h.top
  obtain ⟨r, hr⟩ := State.topJava?_eq_some.mp hg0
  have hr' : (({ U with heap := s₂.heap, slotsUsed := s₂.slotsUsed } : State).setVm s₂.vm).frames = .java g₀ :: r := hr
  rcases hq' with ⟨hqc, L, hfe, hL⟩ | ⟨q, rfl, E, ce, L, hx, hce, hcv, hcl, hW₂, hsm, hL⟩
  · obtain ⟨⟨v, rfl⟩, hW₂, e2, q2, q3, q4, q5, q6⟩ := id hfe
    have e3 : s₂ = ({ (U.calling g mk a).setFrames s₂.frames with heap := s₂.heap, slotsUsed := s₂.slotsUsed } : State).setVm s₂.vm := by
      have : s₂ = ({ s₂ with vm := (U.calling g mk a).vm } : State).setVm s₂.vm := rfl
      rw [e2] at this
      exact this
    obtain ⟨c₂, i₂, len₂, hc₂, hd₂, hf₂⟩ := hend
    have hW' : U.WarmedH s₂.vm := hW₂
    have hcc : c₂ = c := by
      have h1 : s₂.code? g.method = U.code? g.method := by
        rw [State.code?_eq, State.code?_eq, hW'.alike.method?]
      exact Option.some.inj (hc₂.symm.trans (h1.trans h.code))
    subst hcc
    have hlen : len₂ = len := by rw [hdg] at hd₂; cases hd₂; rfl
    subst hlen
    have hs₂ : s₂ = (({ U with heap := s₂.heap, slotsUsed := s₂.slotsUsed } : State).setVm s₂.vm).setTop { g with pc := g.pc + len₂, stack := v.toList ++ g.stack } := by
      refine e3.trans ?_
      rw [hf₂, State.calling_eq h.top, State.setFrames_setFrames, State.setTop_of_frames _ hr', hr]
      rfl
    have hsame : U.sameButNew ({ U with heap := s₂.heap, slotsUsed := s₂.slotsUsed } : State) L mc ms := by
      refine ⟨?_, q2, q3, q4, q5, q6⟩
      obtain ⟨t, ht, -⟩ := State.frames_cons hr
      show ({ U with heap := s₂.heap, slotsUsed := s₂.slotsUsed } : State) = { U.setFrames U.frames with heap := s₂.heap, slotsUsed := s₂.slotsUsed }
      rw [State.setFrames_self ht]
    subst hg
    refine Or.inl ⟨v, ⟨(({ U with heap := s₂.heap, slotsUsed := s₂.slotsUsed } : State).setVm s₂.vm), Ls ++ L, c0 + mc, s0 + ms⟩,
      ⟨X.admits, X.cas, X.clock, X.frames, X.room, X.hears, X.method, X.code, (X.here.setHeapUsed s₂.heap s₂.slotsUsed).setVm hW'.alike, X.tail, State.WarmedH.trans X.warmed hW', X.limits, X.bytes, X.same.trans (hsame.setVm s.vm)⟩,
      ⟨g, mk, s₂, L, rfl, rfl, hqc, rfl, hL, rfl, rfl⟩, ?_⟩
    show Steps p.tables e below _ ((({ U with heap := s₂.heap, slotsUsed := s₂.slotsUsed } : State).setVm s₂.vm).setTop { g with pc := g.pc + len₂, stack := v.toList ++ g.stack })
    rw [← hs₂]
    exact hsteps
  · obtain ⟨e2, q2, q3, q4, q5, q6⟩ := id hsm
    have e3 : s₂ = ({ (U.calling g mk a).setFrames s₂.frames with heap := s₂.heap, slotsUsed := s₂.slotsUsed } : State).setVm s₂.vm := by
      have : s₂ = ({ s₂ with vm := (U.calling g mk a).vm } : State).setVm s₂.vm := rfl
      rw [e2] at this
      exact this
    have hf₂ : s₂.frames = .throwing q :: .java g :: U.frames.tail := hend
    have hW' : U.WarmedH s₂.vm := hW₂
    have hs₂ : s₂ = ((({ U with heap := s₂.heap, slotsUsed := s₂.slotsUsed } : State).setVm s₂.vm).setTop g).pushFrame (.throwing q) := by
      refine e3.trans ?_
      rw [hf₂, State.calling_eq h.top, State.setFrames_setFrames, State.pushFrame, State.frames_setTop _ hr', State.setTop_of_frames _ hr', State.setFrames_setFrames, hr]
      rfl
    have hsame : U.sameButNew ({ U with heap := s₂.heap, slotsUsed := s₂.slotsUsed } : State) L mc ms := by
      refine ⟨?_, q2, q3, q4, q5, q6⟩
      obtain ⟨t, ht, -⟩ := State.frames_cons hr
      show ({ U with heap := s₂.heap, slotsUsed := s₂.slotsUsed } : State) = { U.setFrames U.frames with heap := s₂.heap, slotsUsed := s₂.slotsUsed }
      rw [State.setFrames_self ht]
    subst hg
    refine Or.inr ⟨q, ⟨(({ U with heap := s₂.heap, slotsUsed := s₂.slotsUsed } : State).setVm s₂.vm), Ls ++ L, c0 + mc, s0 + ms⟩,
      ⟨X.admits, X.cas, X.clock, X.frames, X.room, X.hears, X.method, X.code, (X.here.setHeapUsed s₂.heap s₂.slotsUsed).setVm hW'.alike, X.tail, State.WarmedH.trans X.warmed hW', X.limits, X.bytes, X.same.trans (hsame.setVm s.vm)⟩,
      ⟨g, mk, s₂, L, E, ce, rfl, rfl, hx, hce, hcv, hcl, rfl, hL, rfl, rfl⟩, ?_⟩
    show Steps p.tables e below _ (((({ U with heap := s₂.heap, slotsUsed := s₂.slotsUsed } : State).setVm s₂.vm).setTop g).pushFrame (.throwing q))
    rw [← hs₂]
    exact hsteps
end
variable {p : Program} {l : Launch} {e : Env} {R : Room} {s : State} {m : MethodId} {args : Array Value} {below : List Frame} {meth : Method} {c : Code} {T : State} {H : Heap} {locs : List Loc} {cells slots : Nat}
theorem vx_callVX (X : Stand p l e R s m args below meth c T locs cells slots) (hexec : p.tables.exec = Jvm.exec) {own C : String} {index : Nat} {y : MethodName} {bytes : ByteArray} {maxL : Nat} {ret : Option FieldType} {hh : List (Nat × Nat × Nat × Nat)}
    (hown : s.vm.findClass own = some m.cls) (hlink : (Cond.methodLink own index y).before args s = true) (hinst : (Cond.instanceMethod y).before args s = true) (hsel : (Cond.selects C y y).before args s = true)
    (hcode : (Cond.codeWith y bytes maxL ret hh).before args s = true) (hy : y.cls ≠ "java/lang/invoke/MethodHandle" ∧ y.cls ≠ "java/lang/invoke/VarHandle")
    {W9 : Nat} {Pre : Pt → Array Value → Prop} {Post : Pt → Array Value → Option Value → Pt → Prop} {PostX : Pt → Array Value → Addr → Pt → Prop} (hK : vx_Back l R p e below s args y 3 W9 Pre Post PostX)
    {b : Addr} {cellB : Cell} (hcell : T.heap[b]? = some cellB) (hobj : cellB.vm.isStatics = false) (hcls : s.vm.findClass C = some cellB.cls)
    {g : JFrame} (hg : g.method = m) (hsize : g.locals.size = c.maxLocals) {argsL rest : List Value} (hlen : ∀ sig, parseMethodDescriptor y.desc = some sig → argsL.length = sig.parameters.length)
    (hstack : g.stack = argsL.reverse ++ .ref b :: rest) (hW : 2 * g.monitorRoom + (rest.map fun v => v.category).sum ≤ W9) (hdg : decode c.code g.pc = .ok (.invokevirtual index, 3))
    (hpre : ∀ vm₁, s.WarmedH vm₁ → Pre ⟨T.setVm vm₁, locs, cells, slots⟩ (Value.ref b :: argsL).toArray) :
    (∃ (v : Option Value) (vm₁ : Vm) (B : Pt), s.WarmedH vm₁ ∧ Stand p l e R s m args below meth c B.U B.locs B.cells B.slots ∧ Post ⟨T.setVm vm₁, locs, cells, slots⟩ (Value.ref b :: argsL).toArray v B ∧
      ∀ target, Steps p.tables e below (B.U.setTop { g with pc := g.pc + 3, stack := v.toList ++ rest }) target → Steps p.tables e below (T.setTop g) target) ∨
    (∃ (q : Addr) (vm₁ : Vm) (B : Pt), s.WarmedH vm₁ ∧ Stand p l e R s m args below meth c B.U B.locs B.cells B.slots ∧ PostX ⟨T.setVm vm₁, locs, cells, slots⟩ (Value.ref b :: argsL).toArray q B ∧
      Steps p.tables e below (T.setTop g) ((B.U.setTop { g with stack := rest }).pushFrame (.throwing q))) := by
  obtain ⟨mk, methM, hnamed, hmethM, hstM, habM⟩ := Cond.instanceMethod_spec hinst
  obtain ⟨m8, methM', cM, hn8, hmethM', -, -, -, -, -, -, hsigM⟩ := Cond.codeWith_spec hcode
  cases Option.some.inj (hn8.symm.trans hnamed)
  cases hmethM.symm.trans hmethM'
  obtain ⟨c2, r2, m2, q1, q2, q3, q4, kP, hkP, hkPi⟩ := Cond.selects_spec hsel
  cases hcls.symm.trans q1
  cases (State.methodFound?_of_named hnamed hy).symm.trans q2
  cases hnamed.symm.trans q3
  have hselP : selectMethod e.platform s.vm cellB.cls mk = .method mk := by rw [Launch.admits_selectMethod X.admits]; exact q4
  obtain ⟨vm₁, X₁, hstep₁⟩ := X.invokevirtual hexec hown hlink hnamed hmethM hstM hkP hkPi hy (a := b) (cell := cellB) hcell
    (fun z h => by rw [h] at hobj; cases hobj) hselP hmethM habM hkP hkPi (g := g) hg (argsL := argsL) (rest := rest) (hlen _ hsigM) hstack hdg
  rcases hK m meth c ⟨T.setVm vm₁, locs, cells, slots⟩ { g with stack := rest } (.invokevirtual index) mk (Value.ref b :: argsL).toArray X₁ hg hsize hdg hW (X₁.named hnamed) (hpre vm₁ X₁.warmed) with ⟨v, B, X', hpost, hsteps⟩ | ⟨q, B, X', hpost, hsteps⟩
  · exact Or.inl ⟨v, vm₁, B, X₁.warmed, X', hpost, fun target h => hstep₁ _ fun acts => by rw [doInvoke_state]; exact hsteps.trans h⟩
  · exact Or.inr ⟨q, vm₁, B, X₁.warmed, X', hpost, hstep₁ _ fun acts => by rw [doInvoke_state]; exact hsteps⟩
theorem vx_callSX (X : Stand p l e R s m args below meth c T locs cells slots) (hexec : p.tables.exec = Jvm.exec) {own : String} {index : Nat} {y : MethodName} {bytes : ByteArray} {maxL : Nat} {ret : Option FieldType} {hh : List (Nat × Nat × Nat × Nat)}
    (hown : s.vm.findClass own = some m.cls) (hlink : (Cond.methodLink own index y).before args s = true) (hstat : (Cond.static y).before args s = true) (hinit : (Cond.initialized y.cls).before args s = true)
    (hcode : (Cond.codeWith y bytes maxL ret hh).before args s = true) (hy : y.cls ≠ "java/lang/invoke/MethodHandle" ∧ y.cls ≠ "java/lang/invoke/VarHandle")
    {W9 : Nat} {Pre : Pt → Array Value → Prop} {Post : Pt → Array Value → Option Value → Pt → Prop} {PostX : Pt → Array Value → Addr → Pt → Prop} (hK : vx_Back l R p e below s args y 3 W9 Pre Post PostX)
    {g : JFrame} (hg : g.method = m) (hsize : g.locals.size = c.maxLocals) {argsL rest : List Value} (hlen : ∀ sig, parseMethodDescriptor y.desc = some sig → argsL.length = sig.parameters.length)
    (hstack : g.stack = argsL.reverse ++ rest) (hW : 2 * g.monitorRoom + (rest.map fun v => v.category).sum ≤ W9) (hdg : decode c.code g.pc = .ok (.invokestatic index, 3))
    (hpre : ∀ vm₁, s.WarmedH vm₁ → Pre ⟨T.setVm vm₁, locs, cells, slots⟩ argsL.toArray) :
    (∃ (v : Option Value) (vm₁ : Vm) (B : Pt), s.WarmedH vm₁ ∧ Stand p l e R s m args below meth c B.U B.locs B.cells B.slots ∧ Post ⟨T.setVm vm₁, locs, cells, slots⟩ argsL.toArray v B ∧
      ∀ target, Steps p.tables e below (B.U.setTop { g with pc := g.pc + 3, stack := v.toList ++ rest }) target → Steps p.tables e below (T.setTop g) target) ∨
    (∃ (q : Addr) (vm₁ : Vm) (B : Pt), s.WarmedH vm₁ ∧ Stand p l e R s m args below meth c B.U B.locs B.cells B.slots ∧ PostX ⟨T.setVm vm₁, locs, cells, slots⟩ argsL.toArray q B ∧
      Steps p.tables e below (T.setTop g) ((B.U.setTop { g with stack := rest }).pushFrame (.throwing q))) := by
  obtain ⟨mk, methM, cM, hnamed, hmethM, -, -, -, -, -, -, hsigM⟩ := Cond.codeWith_spec hcode
  have hstatic : methM.isStatic = true := Cond.static_spec hnamed hmethM hstat
  obtain ⟨kP, hkP, -⟩ := className_of_methodNamed hnamed
  have hinitP : kP.init = .initialized := Cond.initialized_spec (findClass_of_methodNamed hnamed) hkP hinit
  obtain ⟨vm₁, X₁, hstep₁⟩ := X.invokestatic hexec hown hlink hnamed hmethM hstatic hkP hinitP hy (g := g) hg (argsL := argsL) (rest := rest) (hlen _ hsigM) hstack hdg
  rcases hK m meth c ⟨T.setVm vm₁, locs, cells, slots⟩ { g with stack := rest } (.invokestatic index) mk argsL.toArray X₁ hg hsize hdg hW (X₁.named hnamed) (hpre vm₁ X₁.warmed) with ⟨v, B, X', hpost, hsteps⟩ | ⟨q, B, X', hpost, hsteps⟩
  · exact Or.inl ⟨v, vm₁, B, X₁.warmed, X', hpost, fun target h => hstep₁ _ fun acts => by rw [doInvoke_state]; exact hsteps.trans h⟩
  · exact Or.inr ⟨q, vm₁, B, X₁.warmed, X', hpost, hstep₁ _ fun acts => by rw [doInvoke_state]; exact hsteps⟩
theorem vx_callVW (X : Stand p l e R s m args below meth c T locs cells slots) (hexec : p.tables.exec = Jvm.exec) {own C : String} {index : Nat} {y : MethodName} {bytes : ByteArray} {maxL : Nat} {ret : Option FieldType} {hh : List (Nat × Nat × Nat × Nat)}
    (hown : s.vm.findClass own = some m.cls) (hlink : (Cond.methodLink own index y).before args s = true) (hinst : (Cond.instanceMethod y).before args s = true) (hsel : (Cond.selects C y y).before args s = true)
    (hcode : (Cond.codeWith y bytes maxL ret hh).before args s = true) (hy : y.cls ≠ "java/lang/invoke/MethodHandle" ∧ y.cls ≠ "java/lang/invoke/VarHandle")
    {W9 : Nat} {Pre : Pt → Array Value → Prop} {Post : Pt → Array Value → Option Value → Pt → Prop} (hK : Back l R p e below s args y 3 W9 Pre Post)
    {b : Addr} {cellB : Cell} (hcell : T.heap[b]? = some cellB) (hobj : cellB.vm.isStatics = false) (hcls : s.vm.findClass C = some cellB.cls)
    {g : JFrame} (hg : g.method = m) (hsize : g.locals.size = c.maxLocals) {argsL rest : List Value} (hlen : ∀ sig, parseMethodDescriptor y.desc = some sig → argsL.length = sig.parameters.length)
    (hstack : g.stack = argsL.reverse ++ .ref b :: rest) (hW : 2 * g.monitorRoom + (rest.map fun v => v.category).sum ≤ W9) (hdg : decode c.code g.pc = .ok (.invokevirtual index, 3))
    (hpre : ∀ vm₁, s.WarmedH vm₁ → Pre ⟨T.setVm vm₁, locs, cells, slots⟩ (Value.ref b :: argsL).toArray) :
    ∃ (v : Option Value) (vm₁ : Vm) (B : Pt), s.WarmedH vm₁ ∧ Stand p l e R s m args below meth c B.U B.locs B.cells B.slots ∧ Post ⟨T.setVm vm₁, locs, cells, slots⟩ (Value.ref b :: argsL).toArray v B ∧
      ∀ target, Steps p.tables e below (B.U.setTop { g with pc := g.pc + 3, stack := v.toList ++ rest }) target → Steps p.tables e below (T.setTop g) target := by
  obtain ⟨mk, methM, hnamed, hmethM, hstM, habM⟩ := Cond.instanceMethod_spec hinst
  obtain ⟨m8, methM', cM, hn8, hmethM', -, -, -, -, -, -, hsigM⟩ := Cond.codeWith_spec hcode
  cases Option.some.inj (hn8.symm.trans hnamed)
  cases hmethM.symm.trans hmethM'
  obtain ⟨c2, r2, m2, q1, q2, q3, q4, kP, hkP, hkPi⟩ := Cond.selects_spec hsel
  cases hcls.symm.trans q1
  cases (State.methodFound?_of_named hnamed hy).symm.trans q2
  cases hnamed.symm.trans q3
  have hselP : selectMethod e.platform s.vm cellB.cls mk = .method mk := by rw [Launch.admits_selectMethod X.admits]; exact q4
  obtain ⟨vm₁, X₁, hstep₁⟩ := X.invokevirtual hexec hown hlink hnamed hmethM hstM hkP hkPi hy (a := b) (cell := cellB) hcell
    (fun z h => by rw [h] at hobj; cases hobj) hselP hmethM habM hkP hkPi (g := g) hg (argsL := argsL) (rest := rest) (hlen _ hsigM) hstack hdg
  obtain ⟨v, B, X', hpost, hsteps⟩ := hK m meth c ⟨T.setVm vm₁, locs, cells, slots⟩ { g with stack := rest } (.invokevirtual index) mk (Value.ref b :: argsL).toArray X₁ hg hsize hdg hW (X₁.named hnamed) (hpre vm₁ X₁.warmed)
  exact ⟨v, vm₁, B, X₁.warmed, X', hpost, fun target h => hstep₁ _ fun acts => by rw [doInvoke_state]; exact hsteps.trans h⟩
abbrev vx_CVW (R : Room) (s : State) (args : Array Value) (own C : String) (index : Nat) (y : MethodName) (bytes : ByteArray) (maxL : Nat) (ret : Option FieldType) (hh : List (Nat × Nat × Nat × Nat)) (ws : List Cond) (rm : Room) (mc ms n : Nat) : Prop :=
  (rm.cells = mc ∧ rm.slots = ms ∧ rm.frames + 1 ≤ R.frames ∧ 8 + (maxL + 11) + rm.locals ≤ R.locals ∧ (∀ w ∈ ws, ∀ (a' : Array Value) (U : State), s.WarmedH U.vm → w.before a' U = true) ∧ Cond.codeWith y bytes maxL ret hh ∈ ws) ∧
  (Cond.codeWith y bytes maxL ret hh).before args s = true ∧ (Cond.initialized y.cls).before args s = true ∧ (y.cls ≠ "java/lang/invoke/MethodHandle" ∧ y.cls ≠ "java/lang/invoke/VarHandle") ∧
  (∀ sig, parseMethodDescriptor y.desc = some sig → n = sig.parameters.length) ∧ (Cond.methodLink own index y).before args s = true ∧ (Cond.instanceMethod y).before args s = true ∧ (Cond.selects C y y).before args s = true
theorem vx_cwVW {own C : String} {index maxL mc ms : Nat} {y : MethodName} {bytes : ByteArray} {ret : Option FieldType} {hh : List (Nat × Nat × Nat × Nat)} {Ts ws ws' : List Cond} {rm : Room} (n : Nat) (ht : ∀ w ∈ Ts, w.before args s = true) (hT : GoodIn Ts (wsV own index C y ws)) (hw : ws = Cond.codeWith y bytes maxL ret hh :: ws') (hrc : rm.cells = mc) (hrs : rm.slots = ms)
    (hd : y.cls = C ∧ y.cls ≠ "java/lang/invoke/MethodHandle" ∧ y.cls ≠ "java/lang/invoke/VarHandle" ∧ (parseMethodDescriptor y.desc).map (fun d => d.parameters.length) = some n) (hR : rm.frames + 1 ≤ R.frames ∧ 8 + (maxL + 11) + rm.locals ≤ R.locals) :
    vx_CVW R s args own C index y bytes maxL ret hh ws rm mc ms n := by
  obtain ⟨hC, hd⟩ := hd
  subst hC
  have ok : ∀ w ∈ wsV own index y.cls y ws, w.before args s = true := fun w h => ht w (hT w h).1
  have hG : GoodIn Ts ws := fun w h => hT w (by unfold wsV; exact List.mem_append_right _ h)
  have hc : Cond.codeWith y bytes maxL ret hh ∈ ws := by rw [hw]; exact List.mem_cons_self
  refine ⟨⟨hrc, hrs, hR.1, hR.2, pay_in ht hG, hc⟩, ht _ (hG _ hc).1, ok _ (by simp [wsV]), ⟨hd.1, hd.2.1⟩, fun sig h => ?_, ok _ (by simp [wsV]), ok _ (by simp [wsV]), ok _ (by simp [wsV])⟩
  have h2 := hd.2.2
  rw [h] at h2
  exact (Option.some.inj h2).symm
theorem vx_runVW {y : MethodName} {bytes cc : ByteArray} {maxL nL mc ms n index : Nat} {ret : Option FieldType} {hh : List (Nat × Nat × Nat × Nat)} {ws : List Cond} {rm : Room} {Pc : Array Value → State → Prop} {Qc : Array Value → State → Outcome → State → Prop} {free : Addr → Prop} {Ts : List Cond} {own C : String} {b : Addr} {As rest : List Value} {g : JFrame}
    (S : CallFix p m c cc nL s args Ts own) (hM : Met l y ws rm Pc Qc mc ms free) (cw : vx_CVW R s args own C index y bytes maxL ret hh ws rm mc ms n) (hp : PreV s H C b Pc As)
    (hg : g.method = m) (hn : As.length = n) (hsize : g.locals.size = nL) (hstack : g.stack = As.reverse ++ .ref b :: rest) (hW : 2 * g.monitorRoom + (rest.map fun v => v.category).sum ≤ 8) (hdg : decode cc g.pc = .ok (.invokevirtual index, 3)) (hf : cells + mc ≤ R.cells ∧ slots + ms ≤ R.slots) :
    va_Run p l e R s m args below meth c H locs cells slots mc ms g rest (Qc (Value.ref b :: As).toArray) free := by
  obtain ⟨⟨hrc, hrs, hfr, hlo, hws, hcw⟩, hcode, hini, hy, hlen, hl, hin, hse⟩ := cw
  have hK : Back l R p e below s args y 3 8 (PreOf R mc ms Pc) (PostOf Qc mc ms free) := va_backW (hh := hh) (bytes := bytes) (maxL := maxL) (ret := ret) hM hp.1 hrc hrs hfr hlo hws hcw (fun a' U hW => word_at hW (Or.inl (by first | rfl | simp [Cond.onTables, Cond.keeps, Cond.steady])) hini)
  obtain ⟨hx, hb, hml, ho, -⟩ := S
  obtain ⟨-, ⟨cellB, hcB, hoB, hclB⟩, hPc⟩ := hp
  intro T hT X
  obtain ⟨v, vm₁, ⟨U', l2, c2, s2⟩, hW₁, X', ⟨g', mk, t, L, e1, e2, hq, h1, hL, h2, h3⟩, st⟩ := vx_callVW X hx (C := C) (hh := hh) (bytes := bytes) (maxL := maxL) (ret := ret) ho hl hin hse hcode hy hK (by rw [hT]; exact hcB) hoB hclB hg (hsize.trans hml.symm) (argsL := As) (rest := rest) (fun sig h => hn.trans (hlen sig h)) hstack hW (by rw [hb]; exact hdg)
    (fun vm₁ hW₁ => ⟨hf.1, hf.2, hPc (T.setVm vm₁) hT hW₁⟩)
  dsimp only [Pt.U, Pt.locs, Pt.cells, Pt.slots] at X' e1 e2 h1 h2 h3 st
  subst h1; subst h2; subst h3
  exact ⟨v, (T.setVm vm₁).calling g' mk (Value.ref b :: As).toArray, t, U', L, hT, X', hL, e1, e2, hq, st⟩
section
variable {y : MethodName} {bytes cc : ByteArray} {maxL nL mc ms n index : Nat} {ret : Option FieldType} {ws : List Cond} {rm : Room} {Pc : Array Value → State → Prop} {Qc : Array Value → State → Outcome → State → Prop} {XC : String → State → State → Prop} {free : Addr → Prop} {Ts : List Cond} {own C : String} {b : Addr} {As rest : List Value} {g : JFrame}
theorem vx_runVX {hh : List (Nat × Nat × Nat × Nat)} (S : CallFix p m c cc nL s args Ts own) (hM : vx_Met l y ws rm Pc Qc XC mc ms free) (cw : vx_CVW R s args own C index y bytes maxL ret hh ws rm mc ms n) (hp : PreV s H C b Pc As)
    (hg : g.method = m) (hn : As.length = n) (hsize : g.locals.size = nL) (hstack : g.stack = As.reverse ++ .ref b :: rest) (hW : 2 * g.monitorRoom + (rest.map fun v => v.category).sum ≤ 8) (hdg : decode cc g.pc = .ok (.invokevirtual index, 3)) (hf : cells + mc ≤ R.cells ∧ slots + ms ≤ R.slots) :
    vx_Run p l e R s m args below meth c H locs cells slots mc ms g rest (Qc (Value.ref b :: As).toArray) XC free := by
  obtain ⟨⟨hrc, hrs, hfr, hlo, hws, hcw⟩, hcode, hini, hy, hlen, hl, hin, hse⟩ := cw
  have hK : vx_Back l R p e below s args y 3 8 (PreOf R mc ms Pc) (PostOf Qc mc ms free) (vx_Post XC mc ms free) := vx_backW (hh := hh) (bytes := bytes) (maxL := maxL) (ret := ret) hM hp.1 hrc hrs hfr hlo hws hcw (fun a' U hW => word_at hW (Or.inl (by first | rfl | simp [Cond.onTables, Cond.keeps, Cond.steady])) hini)
  obtain ⟨hx, hb, hml, ho, -⟩ := S
  obtain ⟨-, ⟨cellB, hcB, hoB, hclB⟩, hPc⟩ := hp
  intro T hT X
  rcases vx_callVX X hx (C := C) (hh := hh) (bytes := bytes) (maxL := maxL) (ret := ret) ho hl hin hse hcode hy hK (by rw [hT]; exact hcB) hoB hclB hg (hsize.trans hml.symm) (argsL := As) (rest := rest) (fun sig h => hn.trans (hlen sig h)) hstack hW (by rw [hb]; exact hdg)
    (fun vm₁ hW₁ => ⟨hf.1, hf.2, hPc (T.setVm vm₁) hT hW₁⟩) with ⟨v, vm₁, ⟨U', l2, c2, s2⟩, hW₁, X', ⟨g', mk, t, L, e1, e2, hq, h1, hL, h2, h3⟩, st⟩ | ⟨q, vm₁, ⟨U', l2, c2, s2⟩, hW₁, X', ⟨g', mk, t, L, E, ce, e1, e2, hq, hce, hcv, hcl, h1, hL, h2, h3⟩, st⟩
  · dsimp only [Pt.U, Pt.locs, Pt.cells, Pt.slots] at X' e1 e2 h1 h2 h3 st
    subst h1; subst h2; subst h3
    exact Or.inl ⟨v, (T.setVm vm₁).calling g' mk (Value.ref b :: As).toArray, t, U', L, hT, X', hL, e1, e2, hq, st⟩
  · dsimp only [Pt.U, Pt.locs, Pt.cells, Pt.slots] at X' e1 e2 h1 h2 h3 st hcl
    subst h1; subst h2; subst h3
    exact Or.inr ⟨q, (T.setVm vm₁).calling g' mk (Value.ref b :: As).toArray, t, U', L, E, ce, hT, X', hL, e1, e2, hq, hce, hcv, vx_cls hW₁ hcl, st⟩
theorem vx_runSX {hh : List (Nat × Nat × Nat × Nat)} (S : CallFix p m c cc nL s args Ts own) (hM : vx_Met l y ws rm Pc Qc XC mc ms free) (cw : vx_CSW R s args own index y bytes maxL ret hh ws rm mc ms n) (hp : PreS s H Pc As)
    (hg : g.method = m) (hn : As.length = n) (hsize : g.locals.size = nL) (hstack : g.stack = As.reverse ++ rest) (hW : 2 * g.monitorRoom + (rest.map fun v => v.category).sum ≤ 8) (hdg : decode cc g.pc = .ok (.invokestatic index, 3)) (hf : cells + mc ≤ R.cells ∧ slots + ms ≤ R.slots) :
    vx_Run p l e R s m args below meth c H locs cells slots mc ms g rest (Qc As.toArray) XC free := by
  obtain ⟨⟨hrc, hrs, hfr, hlo, hws, hcw⟩, hcode, hini, hy, hlen, hl, hstt⟩ := cw
  have hK : vx_Back l R p e below s args y 3 8 (PreOf R mc ms Pc) (PostOf Qc mc ms free) (vx_Post XC mc ms free) := vx_backW (hh := hh) (bytes := bytes) (maxL := maxL) (ret := ret) hM hp.1 hrc hrs hfr hlo hws hcw (fun a' U hW => word_at hW (Or.inl (by first | rfl | simp [Cond.onTables, Cond.keeps, Cond.steady])) hini)
  obtain ⟨hx, hb, hml, ho, -⟩ := S
  intro T hT X
  rcases vx_callSX X hx (hh := hh) (bytes := bytes) (maxL := maxL) (ret := ret) ho hl hstt hini hcode hy hK hg (hsize.trans hml.symm) (argsL := As) (rest := rest) (fun sig h => hn.trans (hlen sig h)) hstack hW (by rw [hb]; exact hdg)
    (fun vm₁ hW₁ => ⟨hf.1, hf.2, hp.2 (T.setVm vm₁) hT hW₁⟩) with ⟨v, vm₁, ⟨U', l2, c2, s2⟩, hW₁, X', ⟨g', mk, t, L, e1, e2, hq, h1, hL, h2, h3⟩, st⟩ | ⟨q, vm₁, ⟨U', l2, c2, s2⟩, hW₁, X', ⟨g', mk, t, L, E, ce, e1, e2, hq, hce, hcv, hcl, h1, hL, h2, h3⟩, st⟩
  · dsimp only [Pt.U, Pt.locs, Pt.cells, Pt.slots] at X' e1 e2 h1 h2 h3 st
    subst h1; subst h2; subst h3
    exact Or.inl ⟨v, (T.setVm vm₁).calling g' mk As.toArray, t, U', L, hT, X', hL, e1, e2, hq, st⟩
  · dsimp only [Pt.U, Pt.locs, Pt.cells, Pt.slots] at X' e1 e2 h1 h2 h3 st hcl
    subst h1; subst h2; subst h3
    exact Or.inr ⟨q, (T.setVm vm₁).calling g' mk As.toArray, t, U', L, E, ce, hT, X', hL, e1, e2, hq, hce, hcv, vx_cls hW₁ hcl, st⟩
end
end VXH
theorem vx_ofWH {l : Launch} {y : MethodName} {ws ws' : List Cond} {rm : Room} {Pc : Array Value → State → Prop} {Qc : Array Value → State → Outcome → State → Prop} {XC : String → State → State → Prop} {mc ms : Nat} {free : Addr → Prop} {cc : ByteArray} {maxL : Nat} {ret : Option FieldType} {hh : List (Nat × Nat × Nat × Nat)}
    (hy : plainName y.cls = true) (hw : ws = Cond.codeWith y cc maxL ret hh :: ws')
    (body : ∀ p e s m args below meth c s₁, BodyLoose p l y (headSpec ws rm) cc maxL ret e s m args below meth c s₁ → c.maxLocals = maxL → Pc args s →
      W p l e (headSpec ws rm).room s m args below meth c s.heap [] 0 0 (vx_MQ below Qc XC args s mc ms free) (entryFrame m args maxL)) : vx_Met l y ws rm Pc Qc XC mc ms free := by
  refine MetFree.of_bodyS (code := cc) (maxLocals := maxL) (ret := ret) hy ?_ ?_
  · intro args s m h hn
    obtain ⟨m9, meth, c, hn9, h1, h2, h3, h4, -, h5, h6, -⟩ := Cond.codeWith_spec (atoms_spec (ws := ws) h _ (by rw [hw]; exact List.mem_cons_self))
    cases hn.symm.trans hn9
    exact ⟨meth, c, h1, h2, h3, h4, h5, h6⟩
  · intro p e s m args below meth c s₁ B hml hP _
    have hh0 : s₁.heap = s.heap := by rw [B.state]; rfl
    obtain ⟨t, a1, o, b1, b2, b3⟩ := body p e s m args below meth c s₁ B hml hP s₁ hh0 (Stand.of_body B)
    exact ⟨t, o, a1, b1, b2, b3⟩
/-! ===== END ===== -/
end
section
/-! ===== BEGIN printed: names, fields, word lists, decode rows ===== -/
def RX0 : String := "ShadowWard$Block"
def TX0 : u_T := fun k => match k with
  | 0 => ("ShadowWard$Region", "place", "I", true)
  | 1 => ("ShadowWard$Region", "number", "I", true)
  | 2 => ("ShadowWard$Region", "address", "I", true)
  | 3 => ("ShadowWard$Region", "size", "I", true)
  | 4 => ("ShadowWard$Region", "end", "I", true)
  | 5 => ("ShadowWard$Region", "siteGiven", "I", true)
  | 6 => ("ShadowWard$Region", "siteFreed", "I", false)
  | 7 => ("ShadowWard$Block", "kind", "I", true)
  | 8 => ("ShadowWard$Block", "chunk", "I", true)
  | 9 => ("ShadowWard$Block", "chunkBytes", "I", true)
  | 10 => ("ShadowWard$Block", "state", "I", false)
  | 11 => ("ShadowWard$Block", "found", "Z", false)
  | _ => ("ShadowWard$Block", "ledToByLost", "Z", false)
def tyX0 : Nat → FieldType := fun k => match k with
  | 0 => .int
  | 1 => .int
  | 2 => .int
  | 3 => .int
  | 4 => .int
  | 5 => .int
  | 6 => .int
  | 7 => .int
  | 8 => .int
  | 9 => .int
  | 10 => .int
  | 11 => .boolean
  | _ => .boolean
abbrev wsX00 : List Cond := u_ws RX0 TX0 13
theorem nmX0 : ∀ a, a < 13 → ∀ b, b < 13 → a ≠ b → (TX0 a).2.1 ≠ (TX0 b).2.1 := by decide +kernel
theorem tyX0_ok : ∀ k, k < 13 → parseFieldDescriptor (TX0 k).2.2.1 = some (tyX0 k) := by decide +kernel
abbrev cX0_init : ByteArray := prog_2_method_1_code
def yX0_init : MethodName := ⟨RX0, "<init>", "(IIIII)V"⟩
abbrev cX0_redzone : ByteArray := prog_2_method_2_code
def yX0_redzone : MethodName := ⟨RX0, "redzone", "(I)I"⟩
abbrev cX0_chunkBytesFor : ByteArray := prog_2_method_3_code
def yX0_chunkBytesFor : MethodName := ⟨RX0, "chunkBytesFor", "(I)I"⟩
abbrev cX0_isLost : ByteArray := prog_2_method_4_code
def yX0_isLost : MethodName := ⟨RX0, "isLost", "()Z"⟩
abbrev cX0_answer : ByteArray := prog_2_method_5_code
def yX0_answer : MethodName := ⟨RX0, "answer", "(I)I"⟩
def RX1 : String := "ShadowWard$Frame"
def TX1 : u_T := fun k => match k with
  | 0 => ("ShadowWard$Frame", "address", "I", true)
  | 1 => ("ShadowWard$Frame", "bytes", "I", true)
  | _ => ("ShadowWard$Frame", "variables", "Ljava/util/ArrayList;", true)
def tyX1 : Nat → FieldType := fun k => match k with
  | 0 => .int
  | 1 => .int
  | _ => .object "java/util/ArrayList"
abbrev wsX10 : List Cond := u_ws RX1 TX1 3
theorem nmX1 : ∀ a, a < 3 → ∀ b, b < 3 → a ≠ b → (TX1 a).2.1 ≠ (TX1 b).2.1 := by decide +kernel
theorem tyX1_ok : ∀ k, k < 3 → parseFieldDescriptor (TX1 k).2.2.1 = some (tyX1 k) := by decide +kernel
abbrev cX1_init : ByteArray := prog_3_method_1_code
def yX1_init : MethodName := ⟨RX1, "<init>", "(II)V"⟩
def RX2 : String := "ShadowWard$Frames"
def TX2 : u_T := fun k => match k with
  | 0 => ("ShadowWard$Frames", "memory", "LShadowWard$Memory;", true)
  | _ => ("ShadowWard$Frames", "frames", "Ljava/util/ArrayList;", true)
def tyX2 : Nat → FieldType := fun k => match k with
  | 0 => .object "ShadowWard$Memory"
  | _ => .object "java/util/ArrayList"
abbrev wsX20 : List Cond := u_ws RX2 TX2 2
theorem nmX2 : ∀ a, a < 2 → ∀ b, b < 2 → a ≠ b → (TX2 a).2.1 ≠ (TX2 b).2.1 := by decide +kernel
theorem tyX2_ok : ∀ k, k < 2 → parseFieldDescriptor (TX2 k).2.2.1 = some (tyX2 k) := by decide +kernel
abbrev cX2_init : ByteArray := prog_4_method_1_code
def yX2_init : MethodName := ⟨RX2, "<init>", "(LShadowWard$Memory;)V"⟩
abbrev cX2_count : ByteArray := prog_4_method_2_code
def yX2_count : MethodName := ⟨RX2, "count", "()I"⟩
abbrev cX2_spanOf : ByteArray := prog_4_method_3_code
def yX2_spanOf : MethodName := ⟨RX2, "spanOf", "(I)I"⟩
abbrev cX2_push : ByteArray := prog_4_method_4_code
def yX2_push : MethodName := ⟨RX2, "push", "(IIII)I"⟩
abbrev cX2_addVariable : ByteArray := prog_4_method_5_code
def yX2_addVariable : MethodName := ⟨RX2, "addVariable", "(LShadowWard$Frame;II)I"⟩
abbrev cX2_paintFrame : ByteArray := prog_4_method_6_code
def yX2_paintFrame : MethodName := ⟨RX2, "paintFrame", "(LShadowWard$Frame;)V"⟩
abbrev cX2_pop : ByteArray := prog_4_method_7_code
def yX2_pop : MethodName := ⟨RX2, "pop", "()V"⟩
abbrev cX2_setScope : ByteArray := prog_4_method_8_code
def yX2_setScope : MethodName := ⟨RX2, "setScope", "(LShadowWard$Variable;Z)Z"⟩
abbrev cX2_nearestTo : ByteArray := prog_4_method_9_code
def yX2_nearestTo : MethodName := ⟨RX2, "nearestTo", "(I)LShadowWard$Region;"⟩
def RX3 : String := "ShadowWard$Globals"
def TX3 : u_T := fun k => match k with
  | 0 => ("ShadowWard$Globals", "memory", "LShadowWard$Memory;", true)
  | _ => ("ShadowWard$Globals", "regions", "Ljava/util/ArrayList;", true)
def tyX3 : Nat → FieldType := fun k => match k with
  | 0 => .object "ShadowWard$Memory"
  | _ => .object "java/util/ArrayList"
abbrev wsX30 : List Cond := u_ws RX3 TX3 2
theorem nmX3 : ∀ a, a < 2 → ∀ b, b < 2 → a ≠ b → (TX3 a).2.1 ≠ (TX3 b).2.1 := by decide +kernel
theorem tyX3_ok : ∀ k, k < 2 → parseFieldDescriptor (TX3 k).2.2.1 = some (tyX3 k) := by decide +kernel
abbrev cX3_init : ByteArray := prog_5_method_1_code
def yX3_init : MethodName := ⟨RX3, "<init>", "(LShadowWard$Memory;)V"⟩
abbrev cX3_place : ByteArray := prog_5_method_2_code
def yX3_place : MethodName := ⟨RX3, "place", "(I)I"⟩
abbrev cX3_nextAddress : ByteArray := prog_5_method_3_code
def yX3_nextAddress : MethodName := ⟨RX3, "nextAddress", "()I"⟩
abbrev cX3_nearestTo : ByteArray := prog_5_method_4_code
def yX3_nearestTo : MethodName := ⟨RX3, "nearestTo", "(I)LShadowWard$Region;"⟩
def RX4 : String := "ShadowWard$Heap"
def TX4 : u_T := fun k => match k with
  | 0 => ("ShadowWard$Heap", "memory", "LShadowWard$Memory;", true)
  | 1 => ("ShadowWard$Heap", "mostHeldBytes", "I", true)
  | 2 => ("ShadowWard$Heap", "blocks", "Ljava/util/ArrayList;", true)
  | 3 => ("ShadowWard$Heap", "quarantine", "Ljava/util/ArrayList;", true)
  | 4 => ("ShadowWard$Heap", "owners", "[LShadowWard$Block;", true)
  | 5 => ("ShadowWard$Heap", "liveCount", "I", false)
  | 6 => ("ShadowWard$Heap", "liveBytes", "I", false)
  | _ => ("ShadowWard$Heap", "heldBytes", "I", false)
def tyX4 : Nat → FieldType := fun k => match k with
  | 0 => .object "ShadowWard$Memory"
  | 1 => .int
  | 2 => .object "java/util/ArrayList"
  | 3 => .object "java/util/ArrayList"
  | 4 => .array (.object "ShadowWard$Block")
  | 5 => .int
  | 6 => .int
  | _ => .int
abbrev wsX40 : List Cond := u_ws RX4 TX4 8
theorem nmX4 : ∀ a, a < 8 → ∀ b, b < 8 → a ≠ b → (TX4 a).2.1 ≠ (TX4 b).2.1 := by decide +kernel
theorem tyX4_ok : ∀ k, k < 8 → parseFieldDescriptor (TX4 k).2.2.1 = some (tyX4 k) := by decide +kernel
abbrev cX4_init : ByteArray := prog_6_method_1_code
def yX4_init : MethodName := ⟨RX4, "<init>", "(LShadowWard$Memory;I)V"⟩
abbrev cX4_give : ByteArray := prog_6_method_2_code
def yX4_give : MethodName := ⟨RX4, "give", "(III)LShadowWard$Block;"⟩
abbrev cX4_unitWithRoom : ByteArray := prog_6_method_3_code
def yX4_unitWithRoom : MethodName := ⟨RX4, "unitWithRoom", "(I)I"⟩
abbrev cX4_firstFreeRun : ByteArray := prog_6_method_4_code
def yX4_firstFreeRun : MethodName := ⟨RX4, "firstFreeRun", "(I)I"⟩
abbrev cX4_setOwner : ByteArray := prog_6_method_5_code
def yX4_setOwner : MethodName := ⟨RX4, "setOwner", "(LShadowWard$Block;LShadowWard$Block;)V"⟩
abbrev cX4_takeBack : ByteArray := prog_6_method_6_code
def yX4_takeBack : MethodName := ⟨RX4, "takeBack", "(LShadowWard$Block;I)V"⟩
abbrev cX4_releaseOldest : ByteArray := prog_6_method_7_code
def yX4_releaseOldest : MethodName := ⟨RX4, "releaseOldest", "()V"⟩
abbrev cX4_chunkOwner : ByteArray := prog_6_method_8_code
def yX4_chunkOwner : MethodName := ⟨RX4, "chunkOwner", "(I)LShadowWard$Block;"⟩
abbrev cX4_blockAt : ByteArray := prog_6_method_9_code
def yX4_blockAt : MethodName := ⟨RX4, "blockAt", "(I)LShadowWard$Block;"⟩
abbrev cX4_liveBlockWith : ByteArray := prog_6_method_10_code
def yX4_liveBlockWith : MethodName := ⟨RX4, "liveBlockWith", "(I)LShadowWard$Block;"⟩
abbrev cX4_nearestTo : ByteArray := prog_6_method_11_code
def yX4_nearestTo : MethodName := ⟨RX4, "nearestTo", "(I)LShadowWard$Region;"⟩
def RX5 : String := "ShadowWard$LostSearch"
def TX5 : u_T := fun k => match k with
  | 0 => ("ShadowWard$LostSearch", "memory", "LShadowWard$Memory;", true)
  | 1 => ("ShadowWard$LostSearch", "globals", "LShadowWard$Globals;", true)
  | 2 => ("ShadowWard$LostSearch", "frames", "LShadowWard$Frames;", true)
  | 3 => ("ShadowWard$LostSearch", "heap", "LShadowWard$Heap;", true)
  | _ => ("ShadowWard$LostSearch", "found", "Ljava/util/ArrayList;", true)
def tyX5 : Nat → FieldType := fun k => match k with
  | 0 => .object "ShadowWard$Memory"
  | 1 => .object "ShadowWard$Globals"
  | 2 => .object "ShadowWard$Frames"
  | 3 => .object "ShadowWard$Heap"
  | _ => .object "java/util/ArrayList"
abbrev wsX50 : List Cond := u_ws RX5 TX5 5
theorem nmX5 : ∀ a, a < 5 → ∀ b, b < 5 → a ≠ b → (TX5 a).2.1 ≠ (TX5 b).2.1 := by decide +kernel
theorem tyX5_ok : ∀ k, k < 5 → parseFieldDescriptor (TX5 k).2.2.1 = some (tyX5 k) := by decide +kernel
abbrev cX5_init : ByteArray := prog_7_method_1_code
def yX5_init : MethodName := ⟨RX5, "<init>", "(LShadowWard$Memory;LShadowWard$Globals;LShadowWard$Frames;LShadowWard$Heap;)V"⟩
abbrev cX5_firstFrom : ByteArray := prog_7_method_2_code
def yX5_firstFrom : MethodName := ⟨RX5, "firstFrom", "(IZ)I"⟩
abbrev cX5_count : ByteArray := prog_7_method_3_code
def yX5_count : MethodName := ⟨RX5, "count", "()I"⟩
abbrev cX5_markFound : ByteArray := prog_7_method_4_code
def yX5_markFound : MethodName := ⟨RX5, "markFound", "()V"⟩
abbrev cX5_findFrom : ByteArray := prog_7_method_5_code
def yX5_findFrom : MethodName := ⟨RX5, "findFrom", "(LShadowWard$Region;)V"⟩
abbrev cX5_markLedToByLost : ByteArray := prog_7_method_6_code
def yX5_markLedToByLost : MethodName := ⟨RX5, "markLedToByLost", "()V"⟩
abbrev cX5_markLedToFrom : ByteArray := prog_7_method_7_code
def yX5_markLedToFrom : MethodName := ⟨RX5, "markLedToFrom", "(LShadowWard$Block;)V"⟩
abbrev cX5_ledToFrom : ByteArray := prog_7_method_8_code
def yX5_ledToFrom : MethodName := ⟨RX5, "ledToFrom", "(I)LShadowWard$Block;"⟩
def RX6 : String := "ShadowWard$Memory"
def TX6 : u_T := fun k => match k with
  | 0 => ("ShadowWard$Memory", "size", "I", true)
  | 1 => ("ShadowWard$Memory", "stackStart", "I", true)
  | 2 => ("ShadowWard$Memory", "heapStart", "I", true)
  | 3 => ("ShadowWard$Memory", "bytes", "[I", true)
  | _ => ("ShadowWard$Memory", "shadows", "[I", true)
def tyX6 : Nat → FieldType := fun k => match k with
  | 0 => .int
  | 1 => .int
  | 2 => .int
  | 3 => .array .int
  | _ => .array .int
abbrev wsX60 : List Cond := u_ws RX6 TX6 5
theorem nmX6 : ∀ a, a < 5 → ∀ b, b < 5 → a ≠ b → (TX6 a).2.1 ≠ (TX6 b).2.1 := by decide +kernel
theorem tyX6_ok : ∀ k, k < 5 → parseFieldDescriptor (TX6 k).2.2.1 = some (tyX6 k) := by decide +kernel
abbrev cX6_init : ByteArray := prog_8_method_1_code
def yX6_init : MethodName := ⟨RX6, "<init>", "(I)V"⟩
abbrev cX6_isAddress : ByteArray := prog_8_method_2_code
def yX6_isAddress : MethodName := ⟨RX6, "isAddress", "(I)Z"⟩
abbrev cX6_holds : ByteArray := prog_8_method_3_code
def yX6_holds : MethodName := ⟨RX6, "holds", "(II)Z"⟩
abbrev cX6_granules : ByteArray := prog_8_method_4_code
def yX6_granules : MethodName := ⟨RX6, "granules", "()I"⟩
abbrev cX6_shadowOf : ByteArray := prog_8_method_5_code
def yX6_shadowOf : MethodName := ⟨RX6, "shadowOf", "(I)I"⟩
abbrev cX6_byteAt : ByteArray := prog_8_method_6_code
def yX6_byteAt : MethodName := ⟨RX6, "byteAt", "(I)I"⟩
abbrev cX6_paint : ByteArray := prog_8_method_7_code
def yX6_paint : MethodName := ⟨RX6, "paint", "(III)V"⟩
abbrev cX6_open : ByteArray := prog_8_method_8_code
def yX6_open : MethodName := ⟨RX6, "open", "(II)V"⟩
abbrev cX6_exchangeWhole : ByteArray := prog_8_method_9_code
def yX6_exchangeWhole : MethodName := ⟨RX6, "exchangeWhole", "(IIII)I"⟩
abbrev cX6_goodBytes : ByteArray := prog_8_method_10_code
def yX6_goodBytes : MethodName := ⟨RX6, "goodBytes", "(I)I"⟩
abbrev cX6_goodAddresses : ByteArray := prog_8_method_11_code
def yX6_goodAddresses : MethodName := ⟨RX6, "goodAddresses", "()I"⟩
abbrev cX6_isGood : ByteArray := prog_8_method_12_code
def yX6_isGood : MethodName := ⟨RX6, "isGood", "(I)Z"⟩
abbrev cX6_firstWrong : ByteArray := prog_8_method_13_code
def yX6_firstWrong : MethodName := ⟨RX6, "firstWrong", "(II)I"⟩
abbrev cX6_kindOfWrong : ByteArray := prog_8_method_14_code
def yX6_kindOfWrong : MethodName := ⟨RX6, "kindOfWrong", "(I)I"⟩
abbrev cX6_number : ByteArray := prog_8_method_15_code
def yX6_number : MethodName := ⟨RX6, "number", "(II)J"⟩
abbrev cX6_setNumber : ByteArray := prog_8_method_16_code
def yX6_setNumber : MethodName := ⟨RX6, "setNumber", "(IIJ)V"⟩
abbrev cX6_setBytes : ByteArray := prog_8_method_17_code
def yX6_setBytes : MethodName := ⟨RX6, "setBytes", "(III)V"⟩
abbrev cX6_moveBytes : ByteArray := prog_8_method_18_code
def yX6_moveBytes : MethodName := ⟨RX6, "moveBytes", "(III)V"⟩
def RX7 : String := "ShadowWard$Region"
def TX7 : u_T := fun k => match k with
  | 0 => ("ShadowWard$Region", "place", "I", true)
  | 1 => ("ShadowWard$Region", "number", "I", true)
  | 2 => ("ShadowWard$Region", "address", "I", true)
  | 3 => ("ShadowWard$Region", "size", "I", true)
  | 4 => ("ShadowWard$Region", "end", "I", true)
  | 5 => ("ShadowWard$Region", "siteGiven", "I", true)
  | _ => ("ShadowWard$Region", "siteFreed", "I", false)
def tyX7 : Nat → FieldType := fun k => match k with
  | 0 => .int
  | 1 => .int
  | 2 => .int
  | 3 => .int
  | 4 => .int
  | 5 => .int
  | _ => .int
abbrev wsX70 : List Cond := u_ws RX7 TX7 7
theorem nmX7 : ∀ a, a < 7 → ∀ b, b < 7 → a ≠ b → (TX7 a).2.1 ≠ (TX7 b).2.1 := by decide +kernel
theorem tyX7_ok : ∀ k, k < 7 → parseFieldDescriptor (TX7 k).2.2.1 = some (tyX7 k) := by decide +kernel
abbrev cX7_init : ByteArray := prog_9_method_1_code
def yX7_init : MethodName := ⟨RX7, "<init>", "(IIIII)V"⟩
abbrev cX7_hasByte : ByteArray := prog_9_method_2_code
def yX7_hasByte : MethodName := ⟨RX7, "hasByte", "(I)Z"⟩
abbrev cX7_farFrom : ByteArray := prog_9_method_3_code
def yX7_farFrom : MethodName := ⟨RX7, "farFrom", "(I)I"⟩
abbrev cX7_sideOf : ByteArray := prog_9_method_4_code
def yX7_sideOf : MethodName := ⟨RX7, "sideOf", "(I)I"⟩
def RX8 : String := "ShadowWard$Report"
def TX8 : u_T := fun k => match k with
  | 0 => ("ShadowWard$Report", "kind", "I", true)
  | 1 => ("ShadowWard$Report", "address", "I", true)
  | 2 => ("ShadowWard$Report", "bytes", "I", true)
  | 3 => ("ShadowWard$Report", "readOrWrite", "I", true)
  | 4 => ("ShadowWard$Report", "place", "I", false)
  | 5 => ("ShadowWard$Report", "number", "I", false)
  | 6 => ("ShadowWard$Report", "far", "I", false)
  | 7 => ("ShadowWard$Report", "side", "I", false)
  | 8 => ("ShadowWard$Report", "siteGiven", "I", false)
  | _ => ("ShadowWard$Report", "siteFreed", "I", false)
def tyX8 : Nat → FieldType := fun k => match k with
  | 0 => .int
  | 1 => .int
  | 2 => .int
  | 3 => .int
  | 4 => .int
  | 5 => .int
  | 6 => .int
  | 7 => .int
  | 8 => .int
  | _ => .int
abbrev wsX80 : List Cond := u_ws RX8 TX8 10
theorem nmX8 : ∀ a, a < 10 → ∀ b, b < 10 → a ≠ b → (TX8 a).2.1 ≠ (TX8 b).2.1 := by decide +kernel
theorem tyX8_ok : ∀ k, k < 10 → parseFieldDescriptor (TX8 k).2.2.1 = some (tyX8 k) := by decide +kernel
abbrev cX8_init : ByteArray := prog_10_method_1_code
def yX8_init : MethodName := ⟨RX8, "<init>", "(IIIILShadowWard$Region;)V"⟩
abbrev cX8_answer : ByteArray := prog_10_method_2_code
def yX8_answer : MethodName := ⟨RX8, "answer", "(I)I"⟩
def RX9 : String := "ShadowWard$Variable"
def TX9 : u_T := fun k => match k with
  | 0 => ("ShadowWard$Region", "place", "I", true)
  | 1 => ("ShadowWard$Region", "number", "I", true)
  | 2 => ("ShadowWard$Region", "address", "I", true)
  | 3 => ("ShadowWard$Region", "size", "I", true)
  | 4 => ("ShadowWard$Region", "end", "I", true)
  | 5 => ("ShadowWard$Region", "siteGiven", "I", true)
  | 6 => ("ShadowWard$Region", "siteFreed", "I", false)
  | _ => ("ShadowWard$Variable", "inScope", "Z", false)
def tyX9 : Nat → FieldType := fun k => match k with
  | 0 => .int
  | 1 => .int
  | 2 => .int
  | 3 => .int
  | 4 => .int
  | 5 => .int
  | 6 => .int
  | _ => .boolean
abbrev wsX90 : List Cond := u_ws RX9 TX9 8
theorem nmX9 : ∀ a, a < 8 → ∀ b, b < 8 → a ≠ b → (TX9 a).2.1 ≠ (TX9 b).2.1 := by decide +kernel
theorem tyX9_ok : ∀ k, k < 8 → parseFieldDescriptor (TX9 k).2.2.1 = some (tyX9 k) := by decide +kernel
abbrev cX9_init : ByteArray := prog_11_method_1_code
def yX9_init : MethodName := ⟨RX9, "<init>", "(III)V"⟩
def RX10 : String := "ShadowWard"
def TX10 : u_T := fun k => match k with
  | 0 => ("ShadowWard", "memory", "LShadowWard$Memory;", true)
  | 1 => ("ShadowWard", "globals", "LShadowWard$Globals;", true)
  | 2 => ("ShadowWard", "frames", "LShadowWard$Frames;", true)
  | 3 => ("ShadowWard", "heap", "LShadowWard$Heap;", true)
  | 4 => ("ShadowWard", "lostSearch", "LShadowWard$LostSearch;", true)
  | _ => ("ShadowWard", "reports", "Ljava/util/ArrayList;", true)
def tyX10 : Nat → FieldType := fun k => match k with
  | 0 => .object "ShadowWard$Memory"
  | 1 => .object "ShadowWard$Globals"
  | 2 => .object "ShadowWard$Frames"
  | 3 => .object "ShadowWard$Heap"
  | 4 => .object "ShadowWard$LostSearch"
  | _ => .object "java/util/ArrayList"
abbrev wsX100 : List Cond := u_ws RX10 TX10 6
theorem nmX10 : ∀ a, a < 6 → ∀ b, b < 6 → a ≠ b → (TX10 a).2.1 ≠ (TX10 b).2.1 := by decide +kernel
theorem tyX10_ok : ∀ k, k < 6 → parseFieldDescriptor (TX10 k).2.2.1 = some (tyX10 k) := by decide +kernel
abbrev cX10_init : ByteArray := prog_1_method_1_code
def yX10_init : MethodName := ⟨RX10, "<init>", "(II)V"⟩
abbrev cX10_global : ByteArray := prog_1_method_2_code
def yX10_global : MethodName := ⟨RX10, "global", "(I)I"⟩
abbrev cX10_enter : ByteArray := prog_1_method_3_code
def yX10_enter : MethodName := ⟨RX10, "enter", "(IIII)I"⟩
abbrev cX10_leave : ByteArray := prog_1_method_4_code
def yX10_leave : MethodName := ⟨RX10, "leave", "()I"⟩
abbrev cX10_scope : ByteArray := prog_1_method_5_code
def yX10_scope : MethodName := ⟨RX10, "scope", "(IIZ)Z"⟩
abbrev cX10_variable : ByteArray := prog_1_method_6_code
def yX10_variable : MethodName := ⟨RX10, "variable", "(II)I"⟩
abbrev cX10_allocate : ByteArray := prog_1_method_7_code
def yX10_allocate : MethodName := ⟨RX10, "allocate", "(III)I"⟩
abbrev cX10_free : ByteArray := prog_1_method_8_code
def yX10_free : MethodName := ⟨RX10, "free", "(III)Z"⟩
abbrev cX10_resize : ByteArray := prog_1_method_9_code
def yX10_resize : MethodName := ⟨RX10, "resize", "(III)I"⟩
abbrev cX10_load : ByteArray := prog_1_method_10_code
def yX10_load : MethodName := ⟨RX10, "load", "(II)J"⟩
abbrev cX10_store : ByteArray := prog_1_method_11_code
def yX10_store : MethodName := ⟨RX10, "store", "(IIJ)Z"⟩
abbrev cX10_fill : ByteArray := prog_1_method_12_code
def yX10_fill : MethodName := ⟨RX10, "fill", "(III)Z"⟩
abbrev cX10_copy : ByteArray := prog_1_method_13_code
def yX10_copy : MethodName := ⟨RX10, "copy", "(IIIZ)Z"⟩
abbrev cX10_length : ByteArray := prog_1_method_14_code
def yX10_length : MethodName := ⟨RX10, "length", "(I)I"⟩
abbrev cX10_text : ByteArray := prog_1_method_15_code
def yX10_text : MethodName := ⟨RX10, "text", "(II)I"⟩
abbrev cX10_compare : ByteArray := prog_1_method_16_code
def yX10_compare : MethodName := ⟨RX10, "compare", "(III)I"⟩
abbrev cX10_lock : ByteArray := prog_1_method_17_code
def yX10_lock : MethodName := ⟨RX10, "lock", "(II)I"⟩
abbrev cX10_unlock : ByteArray := prog_1_method_18_code
def yX10_unlock : MethodName := ⟨RX10, "unlock", "(II)I"⟩
abbrev cX10_report : ByteArray := prog_1_method_19_code
def yX10_report : MethodName := ⟨RX10, "report", "(II)I"⟩
abbrev cX10_block : ByteArray := prog_1_method_20_code
def yX10_block : MethodName := ⟨RX10, "block", "(II)I"⟩
abbrev cX10_shadow : ByteArray := prog_1_method_21_code
def yX10_shadow : MethodName := ⟨RX10, "shadow", "(I)I"⟩
abbrev cX10_peek : ByteArray := prog_1_method_22_code
def yX10_peek : MethodName := ⟨RX10, "peek", "(I)I"⟩
abbrev cX10_held : ByteArray := prog_1_method_23_code
def yX10_held : MethodName := ⟨RX10, "held", "(I)I"⟩
abbrev cX10_lost : ByteArray := prog_1_method_24_code
def yX10_lost : MethodName := ⟨RX10, "lost", "(IZ)I"⟩
abbrev cX10_told : ByteArray := prog_1_method_25_code
def yX10_told : MethodName := ⟨RX10, "told", "(I)I"⟩
abbrev cX10_demand : ByteArray := prog_1_method_26_code
def yX10_demand : MethodName := ⟨RX10, "demand", "(Z)V"⟩
abbrev cX10_demandIndex : ByteArray := prog_1_method_27_code
def yX10_demandIndex : MethodName := ⟨RX10, "demandIndex", "(II)V"⟩
abbrev cX10_isVariableSize : ByteArray := prog_1_method_28_code
def yX10_isVariableSize : MethodName := ⟨RX10, "isVariableSize", "(I)Z"⟩
abbrev cX10_isBlockKind : ByteArray := prog_1_method_29_code
def yX10_isBlockKind : MethodName := ⟨RX10, "isBlockKind", "(I)Z"⟩
abbrev cX10_isCount : ByteArray := prog_1_method_30_code
def yX10_isCount : MethodName := ⟨RX10, "isCount", "(I)Z"⟩
abbrev cX10_roundUp : ByteArray := prog_1_method_31_code
def yX10_roundUp : MethodName := ⟨RX10, "roundUp", "(II)I"⟩
abbrev cX10_variableOf : ByteArray := prog_1_method_32_code
def yX10_variableOf : MethodName := ⟨RX10, "variableOf", "(II)LShadowWard$Variable;"⟩
abbrev cX10_blockToFree : ByteArray := prog_1_method_33_code
def yX10_blockToFree : MethodName := ⟨RX10, "blockToFree", "(II)LShadowWard$Block;"⟩
abbrev cX10_permits : ByteArray := prog_1_method_34_code
def yX10_permits : MethodName := ⟨RX10, "permits", "(III)Z"⟩
abbrev cX10_tell : ByteArray := prog_1_method_35_code
def yX10_tell : MethodName := ⟨RX10, "tell", "(IIII)V"⟩
abbrev cX10_nearer : ByteArray := prog_1_method_36_code
def yX10_nearer : MethodName := ⟨RX10, "nearer", "(LShadowWard$Region;LShadowWard$Region;I)LShadowWard$Region;"⟩
def RX11 : String := "ShadowWardModel"
def TX11 : u_T := fun k => match k with
  | 0 => ("ShadowWardModel", "thrown", "I", false)
  | 1 => ("ShadowWardModel", "n", "I", true)
  | 2 => ("ShadowWardModel", "q", "I", true)
  | 3 => ("ShadowWardModel", "memory", "[B", true)
  | 4 => ("ShadowWardModel", "shadows", "[I", true)
  | 5 => ("ShadowWardModel", "globalAt", "[I", true)
  | 6 => ("ShadowWardModel", "globalSize", "[I", true)
  | 7 => ("ShadowWardModel", "globals", "I", false)
  | 8 => ("ShadowWardModel", "frameAt", "[I", true)
  | 9 => ("ShadowWardModel", "frameEnd", "[I", true)
  | 10 => ("ShadowWardModel", "variables", "[I", true)
  | 11 => ("ShadowWardModel", "varAt", "[I", true)
  | 12 => ("ShadowWardModel", "varSize", "[I", true)
  | 13 => ("ShadowWardModel", "outOfScope", "[Z", true)
  | 14 => ("ShadowWardModel", "frames", "I", false)
  | 15 => ("ShadowWardModel", "blockAt", "[I", true)
  | 16 => ("ShadowWardModel", "blockSize", "[I", true)
  | 17 => ("ShadowWardModel", "blockKind", "[I", true)
  | 18 => ("ShadowWardModel", "blockState", "[I", true)
  | 19 => ("ShadowWardModel", "chunkAt", "[I", true)
  | 20 => ("ShadowWardModel", "chunkSize", "[I", true)
  | 21 => ("ShadowWardModel", "givenAt", "[I", true)
  | 22 => ("ShadowWardModel", "freedAt", "[I", true)
  | 23 => ("ShadowWardModel", "blocks", "I", false)
  | 24 => ("ShadowWardModel", "quarantine", "[I", true)
  | 25 => ("ShadowWardModel", "held", "I", false)
  | 26 => ("ShadowWardModel", "reports", "[I", true)
  | 27 => ("ShadowWardModel", "reportCount", "I", false)
  | 28 => ("ShadowWardModel", "found", "[Z", true)
  | _ => ("ShadowWardModel", "moved", "[B", true)
def tyX11 : Nat → FieldType := fun k => match k with
  | 0 => .int
  | 1 => .int
  | 2 => .int
  | 3 => .array .byte
  | 4 => .array .int
  | 5 => .array .int
  | 6 => .array .int
  | 7 => .int
  | 8 => .array .int
  | 9 => .array .int
  | 10 => .array .int
  | 11 => .array .int
  | 12 => .array .int
  | 13 => .array .boolean
  | 14 => .int
  | 15 => .array .int
  | 16 => .array .int
  | 17 => .array .int
  | 18 => .array .int
  | 19 => .array .int
  | 20 => .array .int
  | 21 => .array .int
  | 22 => .array .int
  | 23 => .int
  | 24 => .array .int
  | 25 => .int
  | 26 => .array .int
  | 27 => .int
  | 28 => .array .boolean
  | _ => .array .byte
abbrev wsX110 : List Cond := u_ws RX11 TX11 30
theorem nmX11 : ∀ a, a < 30 → ∀ b, b < 30 → a ≠ b → (TX11 a).2.1 ≠ (TX11 b).2.1 := by decide +kernel
theorem tyX11_ok : ∀ k, k < 30 → parseFieldDescriptor (TX11 k).2.2.1 = some (tyX11 k) := by decide +kernel
abbrev cX11_init : ByteArray := prog_13_method_1_code
def yX11_init : MethodName := ⟨RX11, "<init>", "(II)V"⟩
abbrev cX11_thrown : ByteArray := prog_13_method_2_code
def yX11_thrown : MethodName := ⟨RX11, "thrown", "()I"⟩
abbrev cX11_refuses : ByteArray := prog_13_method_3_code
def yX11_refuses : MethodName := ⟨RX11, "refuses", "(I)Z"⟩
abbrev cX11_paint : ByteArray := prog_13_method_4_code
def yX11_paint : MethodName := ⟨RX11, "paint", "(III)V"⟩
abbrev cX11_opens : ByteArray := prog_13_method_5_code
def yX11_opens : MethodName := ⟨RX11, "opens", "(II)V"⟩
abbrev cX11_global : ByteArray := prog_13_method_6_code
def yX11_global : MethodName := ⟨RX11, "global", "(I)I"⟩
abbrev cX11_padded : ByteArray := prog_13_method_7_code
def yX11_padded : MethodName := ⟨RX11, "padded", "(I)I"⟩
abbrev cX11_isSize : ByteArray := prog_13_method_8_code
def yX11_isSize : MethodName := ⟨RX11, "isSize", "(I)Z"⟩
abbrev cX11_enter : ByteArray := prog_13_method_9_code
def yX11_enter : MethodName := ⟨RX11, "enter", "(IIII)I"⟩
abbrev cX11_leave : ByteArray := prog_13_method_10_code
def yX11_leave : MethodName := ⟨RX11, "leave", "()I"⟩
abbrev cX11_noVariable : ByteArray := prog_13_method_11_code
def yX11_noVariable : MethodName := ⟨RX11, "noVariable", "(II)Z"⟩
abbrev cX11_scope : ByteArray := prog_13_method_12_code
def yX11_scope : MethodName := ⟨RX11, "scope", "(IIZ)Z"⟩
abbrev cX11_variable : ByteArray := prog_13_method_13_code
def yX11_variable : MethodName := ⟨RX11, "variable", "(II)I"⟩
abbrev cX11_redzone : ByteArray := prog_13_method_14_code
def yX11_redzone : MethodName := ⟨RX11, "redzone", "(I)I"⟩
abbrev cX11_isFree : ByteArray := prog_13_method_15_code
def yX11_isFree : MethodName := ⟨RX11, "isFree", "(II)Z"⟩
abbrev cX11_placeFor : ByteArray := prog_13_method_16_code
def yX11_placeFor : MethodName := ⟨RX11, "placeFor", "(I)I"⟩
abbrev cX11_oldestLeaves : ByteArray := prog_13_method_17_code
def yX11_oldestLeaves : MethodName := ⟨RX11, "oldestLeaves", "()V"⟩
abbrev cX11_given : ByteArray := prog_13_method_18_code
def yX11_given : MethodName := ⟨RX11, "given", "(III)I"⟩
abbrev cX11_allocate : ByteArray := prog_13_method_19_code
def yX11_allocate : MethodName := ⟨RX11, "allocate", "(III)I"⟩
abbrev cX11_heldBytes : ByteArray := prog_13_method_20_code
def yX11_heldBytes : MethodName := ⟨RX11, "heldBytes", "()I"⟩
abbrev cX11_goes : ByteArray := prog_13_method_21_code
def yX11_goes : MethodName := ⟨RX11, "goes", "(II)V"⟩
abbrev cX11_blockIn : ByteArray := prog_13_method_22_code
def yX11_blockIn : MethodName := ⟨RX11, "blockIn", "(II)I"⟩
abbrev cX11_mayGo : ByteArray := prog_13_method_23_code
def yX11_mayGo : MethodName := ⟨RX11, "mayGo", "(II)I"⟩
abbrev cX11_free : ByteArray := prog_13_method_24_code
def yX11_free : MethodName := ⟨RX11, "free", "(III)Z"⟩
abbrev cX11_resize : ByteArray := prog_13_method_25_code
def yX11_resize : MethodName := ⟨RX11, "resize", "(III)I"⟩
abbrev cX11_far : ByteArray := prog_13_method_26_code
def yX11_far : MethodName := ⟨RX11, "far", "(JII)J"⟩
abbrev cX11_tells : ByteArray := prog_13_method_27_code
def yX11_tells : MethodName := ⟨RX11, "tells", "(IJIZ)V"⟩
abbrev cX11_regionAt : ByteArray := prog_13_method_28_code
def yX11_regionAt : MethodName := ⟨RX11, "regionAt", "(II)I"⟩
abbrev cX11_nearer : ByteArray := prog_13_method_29_code
def yX11_nearer : MethodName := ⟨RX11, "nearer", "(IJIIII)V"⟩
abbrev cX11_wrong : ByteArray := prog_13_method_30_code
def yX11_wrong : MethodName := ⟨RX11, "wrong", "(J)I"⟩
abbrev cX11_right : ByteArray := prog_13_method_31_code
def yX11_right : MethodName := ⟨RX11, "right", "(JIIIZ)Z"⟩
abbrev cX11_load : ByteArray := prog_13_method_32_code
def yX11_load : MethodName := ⟨RX11, "load", "(II)J"⟩
abbrev cX11_store : ByteArray := prog_13_method_33_code
def yX11_store : MethodName := ⟨RX11, "store", "(IIJ)Z"⟩
abbrev cX11_noAmount : ByteArray := prog_13_method_34_code
def yX11_noAmount : MethodName := ⟨RX11, "noAmount", "(I)Z"⟩
abbrev cX11_fill : ByteArray := prog_13_method_35_code
def yX11_fill : MethodName := ⟨RX11, "fill", "(III)Z"⟩
abbrev cX11_copies : ByteArray := prog_13_method_36_code
def yX11_copies : MethodName := ⟨RX11, "copies", "(IIIZ)Z"⟩
abbrev cX11_copy : ByteArray := prog_13_method_37_code
def yX11_copy : MethodName := ⟨RX11, "copy", "(IIIZ)Z"⟩
abbrev cX11_lengthOf : ByteArray := prog_13_method_38_code
def yX11_lengthOf : MethodName := ⟨RX11, "lengthOf", "(I)I"⟩
abbrev cX11_length : ByteArray := prog_13_method_39_code
def yX11_length : MethodName := ⟨RX11, "length", "(I)I"⟩
abbrev cX11_text : ByteArray := prog_13_method_40_code
def yX11_text : MethodName := ⟨RX11, "text", "(II)I"⟩
abbrev cX11_compare : ByteArray := prog_13_method_41_code
def yX11_compare : MethodName := ⟨RX11, "compare", "(III)I"⟩
abbrev cX11_change : ByteArray := prog_13_method_42_code
def yX11_change : MethodName := ⟨RX11, "change", "(IIII)I"⟩
abbrev cX11_lock : ByteArray := prog_13_method_43_code
def yX11_lock : MethodName := ⟨RX11, "lock", "(II)I"⟩
abbrev cX11_unlock : ByteArray := prog_13_method_44_code
def yX11_unlock : MethodName := ⟨RX11, "unlock", "(II)I"⟩
abbrev cX11_report : ByteArray := prog_13_method_45_code
def yX11_report : MethodName := ⟨RX11, "report", "(II)I"⟩
abbrev cX11_block : ByteArray := prog_13_method_46_code
def yX11_block : MethodName := ⟨RX11, "block", "(II)I"⟩
abbrev cX11_shadow : ByteArray := prog_13_method_47_code
def yX11_shadow : MethodName := ⟨RX11, "shadow", "(I)I"⟩
abbrev cX11_peek : ByteArray := prog_13_method_48_code
def yX11_peek : MethodName := ⟨RX11, "peek", "(I)I"⟩
abbrev cX11_held : ByteArray := prog_13_method_49_code
def yX11_held : MethodName := ⟨RX11, "held", "(I)I"⟩
abbrev cX11_word : ByteArray := prog_13_method_50_code
def yX11_word : MethodName := ⟨RX11, "word", "(I)J"⟩
abbrev cX11_leads : ByteArray := prog_13_method_51_code
def yX11_leads : MethodName := ⟨RX11, "leads", "(III)Z"⟩
abbrev cX11_isRooted : ByteArray := prog_13_method_52_code
def yX11_isRooted : MethodName := ⟨RX11, "isRooted", "(I)Z"⟩
abbrev cX11_walk : ByteArray := prog_13_method_53_code
def yX11_walk : MethodName := ⟨RX11, "walk", "()V"⟩
abbrev cX11_isLost : ByteArray := prog_13_method_54_code
def yX11_isLost : MethodName := ⟨RX11, "isLost", "(I)Z"⟩
abbrev cX11_isAlone : ByteArray := prog_13_method_55_code
def yX11_isAlone : MethodName := ⟨RX11, "isAlone", "(I)Z"⟩
abbrev cX11_lost : ByteArray := prog_13_method_56_code
def yX11_lost : MethodName := ⟨RX11, "lost", "(IZ)I"⟩
abbrev cX11_told : ByteArray := prog_13_method_57_code
def yX11_told : MethodName := ⟨RX11, "told", "(I)I"⟩
abbrev cX11_good : ByteArray := prog_13_method_58_code
def yX11_good : MethodName := ⟨RX11, "good", "()I"⟩
def RJx145de : String := "java/io/Serializable"
def TJx145de : u_T := fun k => match k with
  | _ => ("", "", "", false)
def tyJx145de : Nat → FieldType := fun k => match k with
  | _ => .int
abbrev wsJx145de0 : List Cond := u_ws RJx145de TJx145de 0
theorem nmJx145de : ∀ a, a < 0 → ∀ b, b < 0 → a ≠ b → (TJx145de a).2.1 ≠ (TJx145de b).2.1 := by decide +kernel
theorem tyJx145de_ok : ∀ k, k < 0 → parseFieldDescriptor (TJx145de k).2.2.1 = some (tyJx145de k) := by decide +kernel
def RJx8e188 : String := "java/lang/Cloneable"
def TJx8e188 : u_T := fun k => match k with
  | _ => ("", "", "", false)
def tyJx8e188 : Nat → FieldType := fun k => match k with
  | _ => .int
abbrev wsJx8e1880 : List Cond := u_ws RJx8e188 TJx8e188 0
theorem nmJx8e188 : ∀ a, a < 0 → ∀ b, b < 0 → a ≠ b → (TJx8e188 a).2.1 ≠ (TJx8e188 b).2.1 := by decide +kernel
theorem tyJx8e188_ok : ∀ k, k < 0 → parseFieldDescriptor (TJx8e188 k).2.2.1 = some (tyJx8e188 k) := by decide +kernel
def RJ6 : String := "java/lang/Integer"
def TJ6 : u_T := fun k => match k with
  | _ => ("", "", "", false)
def tyJ6 : Nat → FieldType := fun k => match k with
  | _ => .int
abbrev wsJ60 : List Cond := u_ws RJ6 TJ6 0
theorem nmJ6 : ∀ a, a < 0 → ∀ b, b < 0 → a ≠ b → (TJ6 a).2.1 ≠ (TJ6 b).2.1 := by decide +kernel
theorem tyJ6_ok : ∀ k, k < 0 → parseFieldDescriptor (TJ6 k).2.2.1 = some (tyJ6 k) := by decide +kernel
abbrev cJ6_compare_7cf53 : ByteArray := prog_20_method_40_code
def yJ6_compare_7cf53 : MethodName := ⟨RJ6, "compare", "(II)I"⟩
def RJxab1ab : String := "java/lang/Iterable"
def TJxab1ab : u_T := fun k => match k with
  | _ => ("", "", "", false)
def tyJxab1ab : Nat → FieldType := fun k => match k with
  | _ => .int
abbrev wsJxab1ab0 : List Cond := u_ws RJxab1ab TJxab1ab 0
theorem nmJxab1ab : ∀ a, a < 0 → ∀ b, b < 0 → a ≠ b → (TJxab1ab a).2.1 ≠ (TJxab1ab b).2.1 := by decide +kernel
theorem tyJxab1ab_ok : ∀ k, k < 0 → parseFieldDescriptor (TJxab1ab k).2.2.1 = some (tyJxab1ab k) := by decide +kernel
def RJ9 : String := "java/lang/Math"
def TJ9 : u_T := fun k => match k with
  | _ => ("", "", "", false)
def tyJ9 : Nat → FieldType := fun k => match k with
  | _ => .int
abbrev wsJ90 : List Cond := u_ws RJ9 TJ9 0
theorem nmJ9 : ∀ a, a < 0 → ∀ b, b < 0 → a ≠ b → (TJ9 a).2.1 ≠ (TJ9 b).2.1 := by decide +kernel
theorem tyJ9_ok : ∀ k, k < 0 → parseFieldDescriptor (TJ9 k).2.2.1 = some (tyJ9 k) := by decide +kernel
abbrev cJ9_abs_067f4 : ByteArray := prog_22_method_61_code
def yJ9_abs_067f4 : MethodName := ⟨RJ9, "abs", "(J)J"⟩
abbrev cJ9_max_7cf53 : ByteArray := prog_22_method_65_code
def yJ9_max_7cf53 : MethodName := ⟨RJ9, "max", "(II)I"⟩
abbrev cJ9_min_7cf53 : ByteArray := prog_22_method_69_code
def yJ9_min_7cf53 : MethodName := ⟨RJ9, "min", "(II)I"⟩
def RJ0 : String := "java/lang/String"
def TJ0 : u_T := fun k => match k with
  | _ => ("", "", "", false)
def tyJ0 : Nat → FieldType := fun k => match k with
  | _ => .int
abbrev wsJ00 : List Cond := u_ws RJ0 TJ0 0
theorem nmJ0 : ∀ a, a < 0 → ∀ b, b < 0 → a ≠ b → (TJ0 a).2.1 ≠ (TJ0 b).2.1 := by decide +kernel
theorem tyJ0_ok : ∀ k, k < 0 → parseFieldDescriptor (TJ0 k).2.2.1 = some (tyJ0 k) := by decide +kernel
def RJ10 : String := "java/lang/System"
def TJ10 : u_T := fun k => match k with
  | _ => ("", "", "", false)
def tyJ10 : Nat → FieldType := fun k => match k with
  | _ => .int
abbrev wsJ100 : List Cond := u_ws RJ10 TJ10 0
theorem nmJ10 : ∀ a, a < 0 → ∀ b, b < 0 → a ≠ b → (TJ10 a).2.1 ≠ (TJ10 b).2.1 := by decide +kernel
theorem tyJ10_ok : ∀ k, k < 0 → parseFieldDescriptor (TJ10 k).2.2.1 = some (tyJ10 k) := by decide +kernel
def RJxa1e45 : String := "java/util/AbstractCollection"
def TJxa1e45 : u_T := fun k => match k with
  | _ => ("", "", "", false)
def tyJxa1e45 : Nat → FieldType := fun k => match k with
  | _ => .int
abbrev wsJxa1e450 : List Cond := u_ws RJxa1e45 TJxa1e45 0
theorem nmJxa1e45 : ∀ a, a < 0 → ∀ b, b < 0 → a ≠ b → (TJxa1e45 a).2.1 ≠ (TJxa1e45 b).2.1 := by decide +kernel
theorem tyJxa1e45_ok : ∀ k, k < 0 → parseFieldDescriptor (TJxa1e45 k).2.2.1 = some (tyJxa1e45 k) := by decide +kernel
abbrev cJxa1e45_init_da8c8 : ByteArray := prog_27_method_1_code
def yJxa1e45_init_da8c8 : MethodName := ⟨RJxa1e45, "<init>", "()V"⟩
def RJxc12de : String := "java/util/AbstractList"
def TJxc12de : u_T := fun k => match k with
  | _ => ("", "", "", false)
def tyJxc12de : Nat → FieldType := fun k => match k with
  | _ => .int
abbrev wsJxc12de0 : List Cond := u_ws RJxc12de TJxc12de 0
theorem nmJxc12de : ∀ a, a < 0 → ∀ b, b < 0 → a ≠ b → (TJxc12de a).2.1 ≠ (TJxc12de b).2.1 := by decide +kernel
theorem tyJxc12de_ok : ∀ k, k < 0 → parseFieldDescriptor (TJxc12de k).2.2.1 = some (tyJxc12de k) := by decide +kernel
abbrev cJxc12de_init_da8c8 : ByteArray := prog_28_method_1_code
def yJxc12de_init_da8c8 : MethodName := ⟨RJxc12de, "<init>", "()V"⟩
def RJx4a65c : String := "java/util/ArrayList"
def TJx4a65c : u_T := fun k => match k with
  | 0 => ("java/util/AbstractList", "modCount", "I", false)
  | 1 => ("java/util/ArrayList", "elementData", "[Ljava/lang/Object;", false)
  | _ => ("java/util/ArrayList", "size", "I", false)
def tyJx4a65c : Nat → FieldType := fun k => match k with
  | 0 => .int
  | 1 => .array (.object "java/lang/Object")
  | _ => .int
abbrev wsJx4a65c0 : List Cond := u_ws RJx4a65c TJx4a65c 3
theorem nmJx4a65c : ∀ a, a < 3 → ∀ b, b < 3 → a ≠ b → (TJx4a65c a).2.1 ≠ (TJx4a65c b).2.1 := by decide +kernel
theorem tyJx4a65c_ok : ∀ k, k < 3 → parseFieldDescriptor (TJx4a65c k).2.2.1 = some (tyJx4a65c k) := by decide +kernel
abbrev cJx4a65c_init_da8c8 : ByteArray := prog_29_method_2_code
def yJx4a65c_init_da8c8 : MethodName := ⟨RJx4a65c, "<init>", "()V"⟩
abbrev cJx4a65c_grow_92f84 : ByteArray := prog_29_method_6_code
def yJx4a65c_grow_92f84 : MethodName := ⟨RJx4a65c, "grow", "(I)[Ljava/lang/Object;"⟩
abbrev cJx4a65c_grow_d5877 : ByteArray := prog_29_method_7_code
def yJx4a65c_grow_d5877 : MethodName := ⟨RJx4a65c, "grow", "()[Ljava/lang/Object;"⟩
abbrev cJx4a65c_size_8abf5 : ByteArray := prog_29_method_8_code
def yJx4a65c_size_8abf5 : MethodName := ⟨RJx4a65c, "size", "()I"⟩
abbrev cJx4a65c_isEmpty_aae02 : ByteArray := prog_29_method_9_code
def yJx4a65c_isEmpty_aae02 : MethodName := ⟨RJx4a65c, "isEmpty", "()Z"⟩
abbrev cJx4a65c_elementData_915e3 : ByteArray := prog_29_method_18_code
def yJx4a65c_elementData_915e3 : MethodName := ⟨RJx4a65c, "elementData", "(I)Ljava/lang/Object;"⟩
abbrev cJx4a65c_get_915e3 : ByteArray := prog_29_method_20_code
def yJx4a65c_get_915e3 : MethodName := ⟨RJx4a65c, "get", "(I)Ljava/lang/Object;"⟩
abbrev cJx4a65c_add_72be8 : ByteArray := prog_29_method_24_code
def yJx4a65c_add_72be8 : MethodName := ⟨RJx4a65c, "add", "(Ljava/lang/Object;[Ljava/lang/Object;I)V"⟩
abbrev cJx4a65c_add_9ea2d : ByteArray := prog_29_method_25_code
def yJx4a65c_add_9ea2d : MethodName := ⟨RJx4a65c, "add", "(Ljava/lang/Object;)Z"⟩
abbrev cJx4a65c_remove_915e3 : ByteArray := prog_29_method_29_code
def yJx4a65c_remove_915e3 : MethodName := ⟨RJx4a65c, "remove", "(I)Ljava/lang/Object;"⟩
abbrev cJx4a65c_fastRemove_b59b0 : ByteArray := prog_29_method_39_code
def yJx4a65c_fastRemove_b59b0 : MethodName := ⟨RJx4a65c, "fastRemove", "([Ljava/lang/Object;I)V"⟩
abbrev cJx4a65c_clear_da8c8 : ByteArray := prog_29_method_40_code
def yJx4a65c_clear_da8c8 : MethodName := ⟨RJx4a65c, "clear", "()V"⟩
def RJ7 : String := "java/util/Arrays"
def TJ7 : u_T := fun k => match k with
  | _ => ("", "", "", false)
def tyJ7 : Nat → FieldType := fun k => match k with
  | _ => .int
abbrev wsJ70 : List Cond := u_ws RJ7 TJ7 0
theorem nmJ7 : ∀ a, a < 0 → ∀ b, b < 0 → a ≠ b → (TJ7 a).2.1 ≠ (TJ7 b).2.1 := by decide +kernel
theorem tyJ7_ok : ∀ k, k < 0 → parseFieldDescriptor (TJ7 k).2.2.1 = some (tyJ7 k) := by decide +kernel
abbrev cJ7_copyOf_1904c : ByteArray := prog_30_method_119_code
def yJ7_copyOf_1904c : MethodName := ⟨RJ7, "copyOf", "([Ljava/lang/Object;I)[Ljava/lang/Object;"⟩
abbrev cJ7_copyOf_6403c : ByteArray := prog_30_method_120_code
def yJ7_copyOf_6403c : MethodName := ⟨RJ7, "copyOf", "([Ljava/lang/Object;ILjava/lang/Class;)[Ljava/lang/Object;"⟩
def RJx5ef63 : String := "java/util/Collection"
def TJx5ef63 : u_T := fun k => match k with
  | _ => ("", "", "", false)
def tyJx5ef63 : Nat → FieldType := fun k => match k with
  | _ => .int
abbrev wsJx5ef630 : List Cond := u_ws RJx5ef63 TJx5ef63 0
theorem nmJx5ef63 : ∀ a, a < 0 → ∀ b, b < 0 → a ≠ b → (TJx5ef63 a).2.1 ≠ (TJx5ef63 b).2.1 := by decide +kernel
theorem tyJx5ef63_ok : ∀ k, k < 0 → parseFieldDescriptor (TJx5ef63 k).2.2.1 = some (tyJx5ef63 k) := by decide +kernel
def RJxbd725 : String := "java/util/List"
def TJxbd725 : u_T := fun k => match k with
  | _ => ("", "", "", false)
def tyJxbd725 : Nat → FieldType := fun k => match k with
  | _ => .int
abbrev wsJxbd7250 : List Cond := u_ws RJxbd725 TJxbd725 0
theorem nmJxbd725 : ∀ a, a < 0 → ∀ b, b < 0 → a ≠ b → (TJxbd725 a).2.1 ≠ (TJxbd725 b).2.1 := by decide +kernel
theorem tyJxbd725_ok : ∀ k, k < 0 → parseFieldDescriptor (TJxbd725 k).2.2.1 = some (tyJxbd725 k) := by decide +kernel
def RJ15 : String := "java/util/Objects"
def TJ15 : u_T := fun k => match k with
  | _ => ("", "", "", false)
def tyJ15 : Nat → FieldType := fun k => match k with
  | _ => .int
abbrev wsJ150 : List Cond := u_ws RJ15 TJ15 0
theorem nmJ15 : ∀ a, a < 0 → ∀ b, b < 0 → a ≠ b → (TJ15 a).2.1 ≠ (TJ15 b).2.1 := by decide +kernel
theorem tyJ15_ok : ∀ k, k < 0 → parseFieldDescriptor (TJ15 k).2.2.1 = some (tyJ15 k) := by decide +kernel
abbrev cJ15_checkIndex_7cf53 : ByteArray := prog_33_method_17_code
def yJ15_checkIndex_7cf53 : MethodName := ⟨RJ15, "checkIndex", "(II)I"⟩
def RJxf0a74 : String := "java/util/RandomAccess"
def TJxf0a74 : u_T := fun k => match k with
  | _ => ("", "", "", false)
def tyJxf0a74 : Nat → FieldType := fun k => match k with
  | _ => .int
abbrev wsJxf0a740 : List Cond := u_ws RJxf0a74 TJxf0a74 0
theorem nmJxf0a74 : ∀ a, a < 0 → ∀ b, b < 0 → a ≠ b → (TJxf0a74 a).2.1 ≠ (TJxf0a74 b).2.1 := by decide +kernel
theorem tyJxf0a74_ok : ∀ k, k < 0 → parseFieldDescriptor (TJxf0a74 k).2.2.1 = some (tyJxf0a74 k) := by decide +kernel
def RJxa66e6 : String := "java/util/SequencedCollection"
def TJxa66e6 : u_T := fun k => match k with
  | _ => ("", "", "", false)
def tyJxa66e6 : Nat → FieldType := fun k => match k with
  | _ => .int
abbrev wsJxa66e60 : List Cond := u_ws RJxa66e6 TJxa66e6 0
theorem nmJxa66e6 : ∀ a, a < 0 → ∀ b, b < 0 → a ≠ b → (TJxa66e6 a).2.1 ≠ (TJxa66e6 b).2.1 := by decide +kernel
theorem tyJxa66e6_ok : ∀ k, k < 0 → parseFieldDescriptor (TJxa66e6 k).2.2.1 = some (tyJxa66e6 k) := by decide +kernel
def RJ8 : String := "jdk/internal/util/ArraysSupport"
def TJ8 : u_T := fun k => match k with
  | _ => ("", "", "", false)
def tyJ8 : Nat → FieldType := fun k => match k with
  | _ => .int
abbrev wsJ80 : List Cond := u_ws RJ8 TJ8 0
theorem nmJ8 : ∀ a, a < 0 → ∀ b, b < 0 → a ≠ b → (TJ8 a).2.1 ≠ (TJ8 b).2.1 := by decide +kernel
theorem tyJ8_ok : ∀ k, k < 0 → parseFieldDescriptor (TJ8 k).2.2.1 = some (tyJ8 k) := by decide +kernel
abbrev cJ8_newLength_cabcc : ByteArray := prog_36_method_27_code
def yJ8_newLength_cabcc : MethodName := ⟨RJ8, "newLength", "(III)I"⟩
abbrev cJ8_hugeLength_7cf53 : ByteArray := prog_36_method_28_code
def yJ8_hugeLength_7cf53 : MethodName := ⟨RJ8, "hugeLength", "(II)I"⟩
def RJ3 : String := "jdk/internal/util/Preconditions"
def TJ3 : u_T := fun k => match k with
  | _ => ("", "", "", false)
def tyJ3 : Nat → FieldType := fun k => match k with
  | _ => .int
abbrev wsJ30 : List Cond := u_ws RJ3 TJ3 0
theorem nmJ3 : ∀ a, a < 0 → ∀ b, b < 0 → a ≠ b → (TJ3 a).2.1 ≠ (TJ3 b).2.1 := by decide +kernel
theorem tyJ3_ok : ∀ k, k < 0 → parseFieldDescriptor (TJ3 k).2.2.1 = some (tyJ3 k) := by decide +kernel
abbrev cJ3_checkIndex_8e157 : ByteArray := prog_37_method_11_code
def yJ3_checkIndex_8e157 : MethodName := ⟨RJ3, "checkIndex", "(IILjava/util/function/BiFunction;)I"⟩
def RL : String := "ShadowWardLaw"
abbrev cL_cell : ByteArray := method_2_code
def yL_cell : MethodName := ⟨RL, "cell", "([II)I"⟩
abbrev cL_global : ByteArray := method_3_code
def yL_global : MethodName := ⟨RL, "global", "(LShadowWard;I[J)I"⟩
abbrev cL_enter : ByteArray := method_4_code
def yL_enter : MethodName := ⟨RL, "enter", "(LShadowWard;IIII[J)I"⟩
abbrev cL_leave : ByteArray := method_5_code
def yL_leave : MethodName := ⟨RL, "leave", "(LShadowWard;[J)I"⟩
abbrev cL_scope : ByteArray := method_6_code
def yL_scope : MethodName := ⟨RL, "scope", "(LShadowWard;IIZ[J)I"⟩
abbrev cL_variable : ByteArray := method_7_code
def yL_variable : MethodName := ⟨RL, "variable", "(LShadowWard;II[J)I"⟩
abbrev cL_allocate : ByteArray := method_8_code
def yL_allocate : MethodName := ⟨RL, "allocate", "(LShadowWard;III[J)I"⟩
abbrev cL_free : ByteArray := method_9_code
def yL_free : MethodName := ⟨RL, "free", "(LShadowWard;III[J)I"⟩
abbrev cL_resize : ByteArray := method_10_code
def yL_resize : MethodName := ⟨RL, "resize", "(LShadowWard;III[J)I"⟩
abbrev cL_load : ByteArray := method_11_code
def yL_load : MethodName := ⟨RL, "load", "(LShadowWard;II[J)I"⟩
abbrev cL_store : ByteArray := method_12_code
def yL_store : MethodName := ⟨RL, "store", "(LShadowWard;IIJ[J)I"⟩
abbrev cL_fill : ByteArray := method_13_code
def yL_fill : MethodName := ⟨RL, "fill", "(LShadowWard;III[J)I"⟩
abbrev cL_copy : ByteArray := method_14_code
def yL_copy : MethodName := ⟨RL, "copy", "(LShadowWard;IIIZ[J)I"⟩
abbrev cL_compare : ByteArray := method_15_code
def yL_compare : MethodName := ⟨RL, "compare", "(LShadowWard;III[J)I"⟩
abbrev cL_lock : ByteArray := method_16_code
def yL_lock : MethodName := ⟨RL, "lock", "(LShadowWard;II[J)I"⟩
abbrev cL_unlock : ByteArray := method_17_code
def yL_unlock : MethodName := ⟨RL, "unlock", "(LShadowWard;II[J)I"⟩
abbrev cL_report : ByteArray := method_18_code
def yL_report : MethodName := ⟨RL, "report", "(LShadowWard;II[J)I"⟩
abbrev cL_block : ByteArray := method_19_code
def yL_block : MethodName := ⟨RL, "block", "(LShadowWard;II[J)I"⟩
abbrev cL_shadow : ByteArray := method_20_code
def yL_shadow : MethodName := ⟨RL, "shadow", "(LShadowWard;I[J)I"⟩
abbrev cL_peek : ByteArray := method_21_code
def yL_peek : MethodName := ⟨RL, "peek", "(LShadowWard;I[J)I"⟩
abbrev cL_held : ByteArray := method_22_code
def yL_held : MethodName := ⟨RL, "held", "(LShadowWard;I[J)I"⟩
abbrev cL_told : ByteArray := method_23_code
def yL_told : MethodName := ⟨RL, "told", "(LShadowWard;I[J)I"⟩
abbrev cL_law : ByteArray := code
def yL_law : MethodName := ⟨RL, "law", "([I)Z"⟩
abbrev vwCl : List vw_C := [(RJx4a65c, TJx4a65c, 3), (RX0, TX0, 13), (RX1, TX1, 3), (RX2, TX2, 2), (RX3, TX3, 2), (RX4, TX4, 8), (RX5, TX5, 5), (RX6, TX6, 5), (RX7, TX7, 7), (RX8, TX8, 10), (RX9, TX9, 8), (RX10, TX10, 6), (RX11, TX11, 30)]
end
section
/-! THE PURE LAYER: a heap is a map from addresses to cells, a frame's locals and operands are lists; every row here is the kit's row, said over them. -/
abbrev zHp : Type := (Nat → Option va_E) × Nat × Nat
abbrev zRs : Type := Option Value ⊕ String
abbrev zCx : Type := Launch × State × Array Value × va_G × (Nat → ClassId)
abbrev zEn : Type := Nat × Instr × Nat × Int32 × Nat
abbrev zMI : Type := MethodName × ByteArray × Nat × Option FieldType × List (Nat × List zEn) × List (Nat × Nat × Nat × Nat)
abbrev zLo : Type := List (Option Value)
abbrev zl (X : zCx) : Launch := X.1
abbrev zs (X : zCx) : State := X.2.1
abbrev za (X : zCx) : Array Value := X.2.2.1
abbrev zD (X : zCx) : va_G := X.2.2.2.1
abbrev zA (X : zCx) : Nat → ClassId := X.2.2.2.2
abbrev zB (X : zCx) : Nat := X.2.1.heap.size
abbrev zNm (M : zMI) : MethodName := M.1
abbrev zCd (M : zMI) : ByteArray := M.2.1
abbrev zNL (M : zMI) : Nat := M.2.2.1
abbrev zRt (M : zMI) : Option FieldType := M.2.2.2.1
abbrev zFt (M : zMI) : List (Nat × List zEn) := M.2.2.2.2.1
abbrev zHh (M : zMI) : List (Nat × Nat × Nat × Nat) := M.2.2.2.2.2
def zTy : Nat → FieldType := fun k => match k with
  | 0 => .int
  | 1 => .long
  | 2 => .byte
  | 3 => .boolean
  | 4 => .object "java/lang/Object"
  | _ => .object "ShadowWard$Block"
def zTys (X : zCx) : List (ClassId × FieldType) := (List.range 6).map (fun k => (zA X k, zTy k))
/-- what holds of the start: the tables' words, the classes' numbers, no stack traces, what the Statement gives -/
def zG (X : zCx) : Prop := (∀ w ∈ lw_tbl, w.before (za X) (zs X) = true) ∧ va_K (zD X) vwCl (zTys X) (zs X) ∧ (zl X).stackTraces = false ∧ (Jvm.Cond.and given_1 narrow_1).before (za X) (zs X) = true
theorem zw {X : zCx} (G : zG X) {s : State} {args : Array Value} (hW : (zs X).WarmedH s.vm) {w : Jvm.Cond} (hm : w ∈ lw_tbl) (hg : goodWord w = true) : w.before args s = true := word_at hW (good_of_word hg) (G.1 w hm)
theorem zKs {X : zCx} (G : zG X) {s : State} (hW : (zs X).WarmedH s.vm) : va_K (zD X) vwCl (zTys X) s := va_K.moved hW.alike G.2.1
theorem zTys_at (X : zCx) {k : Nat} (hk : k < 6) : (zTys X)[k]? = some (zA X k, zTy k) := by
  unfold zTys
  rw [List.getElem?_map, List.getElem?_range hk]
  rfl
/-! heaps -/
def zset (h : zHp) (a : Nat) (e : va_E) : zHp := (fun b => if b = a then some e else h.1 b, h.2.1, h.2.2)
def znew (h : zHp) (e : va_E) (k : Nat) : zHp := (fun b => if b = h.2.1 then some e else h.1 b, h.2.1 + 1, h.2.2 + k)
def zadd (h : zHp) (c k : Nat) : zHp := (h.1, h.2.1 + c, h.2.2 + k)
def zLim (X : zCx) (h : zHp) : Prop := h.2.1 ≤ zB X + 601024 ∧ h.2.2 ≤ 7293000
def zR (X : zCx) (h : zHp) (H : Heap) : Prop := H.size = h.2.1 ∧ zB X ≤ H.size ∧ (∀ q : Nat, q < zB X → H[q]? = (zs X).heap[q]?) ∧ (∀ (a : Nat) (e : va_E), h.1 a = some e → zB X ≤ a ∧ va_at (zD X) vwCl (a, e) H) ∧ zLim X h
theorem zR.at {X : zCx} {h : zHp} {H : Heap} (r : zR X h H) {a : Nat} {e : va_E} (ha : h.1 a = some e) : va_P (zD X) vwCl [(a, e)] H := by
  intro k q hq
  match k, hq with
  | 0, hq => cases hq; exact (r.2.2.2.1 a e ha).2
  | k + 1, hq => simp at hq
theorem zR.put {X : zCx} {h : zHp} {H H1 : Heap} (r : zR X h H) {a : Nat} {e : va_E} (hb : zB X ≤ a) (h1 : va_at (zD X) vwCl (a, e) H1) (z : H1.size = H.size) (o : ∀ q : Nat, q ≠ a → H1[q]? = H[q]?) : zR X (zset h a e) H1 := by
  refine ⟨z.trans r.1, by rw [z]; exact r.2.1, fun q hq => ?_, fun b e' hb' => ?_, r.2.2.2.2⟩
  · rw [o q (by omega)]
    exact r.2.2.1 q hq
  · have hb2 : (if b = a then some e else h.1 b) = some e' := hb'
    by_cases c : b = a
    · subst c
      rw [if_pos rfl] at hb2
      cases hb2
      exact ⟨hb, h1⟩
    · rw [if_neg c] at hb2
      obtain ⟨g1, g2⟩ := r.2.2.2.1 b e' hb2
      exact ⟨g1, va_at.kept g2 (o b c)⟩
theorem zR.new {X : zCx} {h : zHp} {H H1 : Heap} (r : zR X h H) {e : va_E} (k : Nat) (h1 : va_at (zD X) vwCl (h.2.1, e) H1) (z : H1.size = H.size + 1) (o : ∀ q : Nat, q < H.size → H1[q]? = H[q]?) (hl : zLim X (znew h e k)) : zR X (znew h e k) H1 := by
  have r1 := r.1
  have r2 := r.2.1
  refine ⟨by show H1.size = h.2.1 + 1; omega, by omega, fun q hq => ?_, fun b e' hb' => ?_, hl⟩
  · rw [o q (by omega)]
    exact r.2.2.1 q hq
  · have hb2 : (if b = h.2.1 then some e else h.1 b) = some e' := hb'
    by_cases c : b = h.2.1
    · subst c
      rw [if_pos rfl] at hb2
      cases hb2
      exact ⟨by omega, h1⟩
    · rw [if_neg c] at hb2
      obtain ⟨g1, g2⟩ := r.2.2.2.1 b e' hb2
      exact ⟨g1, va_at.kept g2 (o b (by have := g2.lt; exact this))⟩
theorem zR.more {X : zCx} {h : zHp} {H H1 : Heap} (r : zR X h H) (c k : Nat) (z : H1.size = H.size + c) (o : ∀ q : Nat, q < H.size → H1[q]? = H[q]?) (hl : zLim X (zadd h c k)) : zR X (zadd h c k) H1 := by
  have r1 := r.1
  have r2 := r.2.1
  refine ⟨by show H1.size = h.2.1 + c; omega, by omega, fun q hq => ?_, fun b e' hb' => ?_, hl⟩
  · rw [o q (by omega)]
    exact r.2.2.1 q hq
  · obtain ⟨g1, g2⟩ := r.2.2.2.1 b e' hb'
    exact ⟨g1, va_at.kept g2 (o b g2.lt)⟩
/-! locals -/
def zget : zLo → Nat → Option Value
  | [], _ => none
  | x :: _, 0 => x
  | _ :: r, i + 1 => zget r i
def zput : zLo → Nat → Option Value → zLo
  | [], _, _ => []
  | _ :: r, 0, v => v :: r
  | x :: r, i + 1, v => x :: zput r i v
def zin : zLo → Nat → Bool
  | [], _ => false
  | _ :: _, 0 => true
  | _ :: r, i + 1 => zin r i
def zlg : Option Value → Bool
  | some (.long _) => true
  | some (.double _) => true
  | _ => false
def zkill : zLo → Nat → zLo
  | [], _ => []
  | x :: r, 0 => x :: r
  | x :: r, 1 => (match zlg x with
    | true => none :: r
    | false => x :: r)
  | x :: r, j + 2 => x :: zkill r (j + 1)
def zst1 (L : zLo) (i : Nat) (v : Value) : zLo := zput (zkill L i) i (some v)
def zst2 (L : zLo) (i : Nat) (v : Value) : zLo := zput (zput (zkill L i) i (some v)) (i + 1) none
def zfc {α : Type} : zLo → (zLo → α) → α
  | [], k => k []
  | x :: r, k => zfc r (fun r' => k (x :: r'))
theorem zfc_eq {α : Type} (L : zLo) (k : zLo → α) : zfc L k = k L := by
  induction L generalizing k with
  | nil => rfl
  | cons x r ih => exact ih _
theorem zget_put (L : zLo) (i j : Nat) (v : Option Value) : zget (zput L i v) j = if j = i ∧ zin L i = true then v else zget L j := by
  induction L generalizing i j with
  | nil => simp [zput, zget, zin]
  | cons x r ih =>
    cases i with
    | zero => cases j <;> simp [zput, zget, zin]
    | succ i =>
      cases j with
      | zero => simp [zput, zget]
      | succ j => simp [zput, zget, zin, ih]
theorem zin_put (L : zLo) (i j : Nat) (v : Option Value) : zin (zput L i v) j = zin L j := by
  induction L generalizing i j with
  | nil => rfl
  | cons x r ih =>
    cases i with
    | zero => cases j <;> rfl
    | succ i => cases j with
      | zero => rfl
      | succ j => exact ih i j
theorem zin_len {L : zLo} {i : Nat} : zin L i = true ↔ i < L.length := by
  induction L generalizing i with
  | nil => simp [zin]
  | cons x r ih => cases i with
    | zero => simp [zin]
    | succ i => simp [zin, ih]
theorem zput_len (L : zLo) (i : Nat) (v : Option Value) : (zput L i v).length = L.length := by
  induction L generalizing i with
  | nil => rfl
  | cons x r ih => cases i with
    | zero => rfl
    | succ i => simp [zput, ih]
theorem zkill_len (L : zLo) (i : Nat) : (zkill L i).length = L.length := by
  induction L generalizing i with
  | nil => rfl
  | cons x r ih =>
    match i with
    | 0 => rfl
    | 1 => cases h : zlg x <;> simp [zkill, h]
    | j + 2 => simp [zkill, ih]
theorem zlg_cat {v : Value} (h : zlg (some v) = false) : v.category = 1 := by cases v <;> simp_all [zlg, Value.category]
theorem zkill_get {L : zLo} {i j : Nat} {v : Value} (h : zget (zkill L i) j = some v) : zget L j = some v ∧ (j + 1 = i → v.category = 1) := by
  induction L generalizing i j with
  | nil => simp [zkill, zget] at h
  | cons x r ih =>
    match i with
    | 0 => exact ⟨h, fun q => by omega⟩
    | 1 =>
      cases hx : zlg x with
      | true =>
        simp only [zkill, hx] at h
        cases j with
        | zero => simp [zget] at h
        | succ j => exact ⟨h, fun q => by omega⟩
      | false =>
        simp only [zkill, hx] at h
        refine ⟨h, fun q => ?_⟩
        have : j = 0 := by omega
        subst this
        have hv : x = some v := h
        rw [hv] at hx
        exact zlg_cat hx
    | k + 2 =>
      cases j with
      | zero => exact ⟨h, fun q => by omega⟩
      | succ j =>
        obtain ⟨g1, g2⟩ := ih (i := k + 1) (j := j) h
        exact ⟨g1, fun q => g2 (by omega)⟩
/-- the machine's locals hold what the list says -/
def zLs (ls : Array Slot) (nL : Nat) (L : zLo) : Prop := L.length = nL ∧ ∃ l, lv_has ls nL l ∧ ∀ i v, zget L i = some v → (i, v) ∈ l
theorem zLs.at {ls : Array Slot} {nL : Nat} {L : zLo} (h : zLs ls nL L) {i : Nat} {v : Value} (hi : zget L i = some v) : ls[i]? = some (.val v) := by
  obtain ⟨-, l, h1, h2⟩ := h
  exact h1.2.2 (i, v) (h2 i v hi)
theorem zLs.st1 {ls : Array Slot} {nL : Nat} {L : zLo} (h : zLs ls nL L) {i : Nat} {v : Value} (hc : v.category = 1) (hi : zin L i = true) : ∃ l, lv_has ls nL l ∧ i < nL ∧ ∀ ls', lv_has ls' nL ((i, v) :: l.filter (fun q => !(q.1 == i) && !(q.1 + 1 == i && q.2.category == 2))) → zLs ls' nL (zst1 L i v) := by
  obtain ⟨h0, l, h1, h2⟩ := h
  have hi' := zin_len.mp hi
  refine ⟨l, h1, by omega, fun ls' h' => ⟨by unfold zst1; rw [zput_len, zkill_len]; exact h0, _, h', fun j w hj => ?_⟩⟩
  unfold zst1 at hj
  rw [zget_put] at hj
  split at hj
  · rename_i e
    cases hj
    rw [e.1]
    exact List.mem_cons_self
  · rename_i e
    obtain ⟨g1, g2⟩ := zkill_get hj
    have hne : j ≠ i := fun q => e ⟨q, by rw [zin_len, zkill_len]; omega⟩
    refine List.mem_cons_of_mem _ (List.mem_filter.mpr ⟨h2 j w g1, ?_⟩)
    by_cases q : j + 1 = i
    · have := g2 q
      simp [hne, this]
    · simp [hne, q]
theorem zLs.st2 {ls : Array Slot} {nL : Nat} {L : zLo} (h : zLs ls nL L) {i : Nat} {v : Value} (hc : v.category = 2) (hi : zin L (i + 1) = true) : ∃ l, lv_has ls nL l ∧ i + 1 < nL ∧ ∀ ls', lv_has ls' nL ((i, v) :: l.filter (fun q => !(q.1 == i) && (!(q.1 == i + 1) && !(q.1 + 1 == i && q.2.category == 2)))) → zLs ls' nL (zst2 L i v) := by
  obtain ⟨h0, l, h1, h2⟩ := h
  have hi' := zin_len.mp hi
  refine ⟨l, h1, by omega, fun ls' h' => ⟨by unfold zst2; rw [zput_len, zput_len, zkill_len]; exact h0, _, h', fun j w hj => ?_⟩⟩
  unfold zst2 at hj
  rw [zget_put] at hj
  split at hj
  · cases hj
  · rename_i e0
    have hj1 : j ≠ i + 1 := fun q => e0 ⟨q, by rw [zin_len, zput_len, zkill_len]; omega⟩
    rw [zget_put] at hj
    split at hj
    · rename_i e
      cases hj
      rw [e.1]
      exact List.mem_cons_self
    · rename_i e
      obtain ⟨g1, g2⟩ := zkill_get hj
      have hne : j ≠ i := fun q => e ⟨q, by rw [zin_len, zkill_len]; omega⟩
      refine List.mem_cons_of_mem _ (List.mem_filter.mpr ⟨h2 j w g1, ?_⟩)
      by_cases q : j + 1 = i
      · have := g2 q
        simp [hne, hj1, this]
      · simp [hne, hj1, q]
end
section
/-! a method's table: pc, instruction, next pc, literal, target; in runs with an upper bound each -/
def zlkE : List zEn → Nat → Option zEn
  | [], _ => none
  | e :: r, pc => match Nat.beq e.1 pc with
    | true => some e
    | false => zlkE r pc
def zlk : List (Nat × List zEn) → Nat → Option zEn
  | [], _ => none
  | q :: r, pc => match Nat.blt pc q.1 with
    | true => zlkE q.2 pc
    | false => zlk r pc
def zlen : Instr → Nat
  | .bipush _ => 2
  | .iload _ => 2
  | .lload _ => 2
  | .aload _ => 2
  | .istore _ => 2
  | .lstore _ => 2
  | .astore _ => 2
  | .ldc _ => 2
  | .newarray _ => 2
  | .sipush _ => 3
  | .iinc _ _ => 3
  | .goto _ => 3
  | .ifCond _ _ => 3
  | .if_icmp _ _ => 3
  | .if_acmp _ _ => 3
  | .ifnull _ => 3
  | .ifnonnull _ => 3
  | .getfield _ => 3
  | .putfield _ => 3
  | .getstatic _ => 3
  | .invokevirtual _ => 3
  | .invokespecial _ => 3
  | .invokestatic _ => 3
  | .new _ => 3
  | .anewarray _ => 3
  | .checkcast _ => 3
  | .ldc2_w _ => 3
  | .tableswitch _ _ _ _ => 0
  | .lookupswitch _ _ => 0
  | _ => 1
def zlit (pc : Nat) (ins : Instr) (v : Int32) (t : Nat) : Bool := match ins with
  | .iconst n => decide (Int32.ofInt n = v)
  | .bipush n => decide ((Int8.ofInt n).toInt32 = v)
  | .sipush n => decide ((Int16.ofInt n).toInt32 = v)
  | .iinc _ n => decide (Int32.ofInt n = v)
  | .goto o => decide ((pc : Int) + o = (t : Int))
  | .ifCond _ o => decide ((pc : Int) + o = (t : Int))
  | .if_icmp _ o => decide ((pc : Int) + o = (t : Int))
  | .if_acmp _ o => decide ((pc : Int) + o = (t : Int))
  | .ifnull o => decide ((pc : Int) + o = (t : Int))
  | .ifnonnull o => decide ((pc : Int) + o = (t : Int))
  | _ => true
def zchk (cc : ByteArray) (e : zEn) : Bool := decide (decode cc e.1 = .ok (e.2.1, e.2.2.1 - e.1)) && (decide (zlen e.2.1 = 0) || decide (e.2.2.1 = e.1 + zlen e.2.1)) && zlit e.1 e.2.1 e.2.2.2.1 e.2.2.2.2
def zMOK (M : zMI) : Prop := ∀ q ∈ zFt M, ∀ e ∈ q.2, zchk (zCd M) e = true
theorem zlkE_ok {l : List zEn} {pc : Nat} {e : zEn} (h : zlkE l pc = some e) : e.1 = pc ∧ e ∈ l := by
  induction l with
  | nil => cases h
  | cons a r ih =>
    simp only [zlkE] at h
    split at h
    · rename_i c
      cases h
      exact ⟨Nat.eq_of_beq_eq_true c, List.mem_cons_self⟩
    · obtain ⟨g1, g2⟩ := ih h
      exact ⟨g1, List.mem_cons_of_mem _ g2⟩
theorem zlk_ok {l : List (Nat × List zEn)} {pc : Nat} {e : zEn} (h : zlk l pc = some e) : e.1 = pc ∧ ∃ q ∈ l, e ∈ q.2 := by
  induction l with
  | nil => cases h
  | cons a r ih =>
    simp only [zlk] at h
    split at h
    · obtain ⟨g1, g2⟩ := zlkE_ok h
      exact ⟨g1, a, List.mem_cons_self, g2⟩
    · obtain ⟨g1, q, g2, g3⟩ := ih h
      exact ⟨g1, q, List.mem_cons_of_mem _ g2, g3⟩
theorem zdc {M : zMI} (hM : zMOK M) {pc : Nat} {e : zEn} (h : zlk (zFt M) pc = some e) : decode (zCd M) pc = .ok (e.2.1, e.2.2.1 - pc) ∧ (zlen e.2.1 = 0 ∨ e.2.2.1 = pc + zlen e.2.1) ∧ zlit pc e.2.1 e.2.2.2.1 e.2.2.2.2 = true := by
  obtain ⟨g1, q, g2, g3⟩ := zlk_ok h
  have g := hM q g2 e g3
  simp only [zchk, Bool.and_eq_true, Bool.or_eq_true, decide_eq_true_eq] at g
  rw [g1] at g
  exact ⟨g.1.1, g.1.2, g.2⟩
theorem zdn {M : zMI} (hM : zMOK M) {pc : Nat} {ins : Instr} {nx : Nat} {v : Int32} {t p0 : Nat} (h : zlk (zFt M) pc = some (p0, ins, nx, v, t)) {n : Nat} (hn : zlen ins = n + 1) : decode (zCd M) pc = .ok (ins, n + 1) ∧ nx = pc + (n + 1) ∧ zlit pc ins v t = true := by
  obtain ⟨h1, h2, h3⟩ := zdc hM h
  dsimp only at h1 h2 h3
  rcases h2 with h2 | h2
  · omega
  · rw [hn] at h2
    subst h2
    rw [show pc + (n + 1) - pc = n + 1 by omega] at h1
    exact ⟨h1, rfl, h3⟩
def zc1 : Value → Bool
  | .long _ => false
  | .double _ => false
  | _ => true
theorem zc1_ok {v : Value} (h : zc1 v = true) : v.category = 1 := by cases v <;> simp_all [zc1, Value.category]
/-- an instruction that asks nothing of the heap -/
def zstp (e : zEn) (L : zLo) (st : List Value) : Option (Nat × zLo × List Value) :=
  match e.2.1 with
  | .iconst _ => some (e.2.2.1, L, .int e.2.2.2.1 :: st)
  | .bipush _ => some (e.2.2.1, L, .int e.2.2.2.1 :: st)
  | .sipush _ => some (e.2.2.1, L, .int e.2.2.2.1 :: st)
  | .lconst k => (match k.val with
    | 0 => some (e.2.2.1, L, .long 0 :: st)
    | _ => some (e.2.2.1, L, .long 1 :: st))
  | .aconst_null => some (e.2.2.1, L, .null :: st)
  | .iload i => (match zget L i with
    | some (.int x) => some (e.2.2.1, L, .int x :: st)
    | _ => none)
  | .iload_n k => (match zget L k.val with
    | some (.int x) => some (e.2.2.1, L, .int x :: st)
    | _ => none)
  | .lload i => (match zget L i with
    | some (.long x) => some (e.2.2.1, L, .long x :: st)
    | _ => none)
  | .lload_n k => (match zget L k.val with
    | some (.long x) => some (e.2.2.1, L, .long x :: st)
    | _ => none)
  | .aload i => (match zget L i with
    | some (.ref x) => some (e.2.2.1, L, .ref x :: st)
    | some .null => some (e.2.2.1, L, .null :: st)
    | _ => none)
  | .aload_n k => (match zget L k.val with
    | some (.ref x) => some (e.2.2.1, L, .ref x :: st)
    | some .null => some (e.2.2.1, L, .null :: st)
    | _ => none)
  | .istore i => (match zin L i, st with
    | true, .int x :: r => zfc (zst1 L i (.int x)) (fun L' => some (e.2.2.1, L', r))
    | _, _ => none)
  | .istore_n k => (match zin L k.val, st with
    | true, .int x :: r => zfc (zst1 L k.val (.int x)) (fun L' => some (e.2.2.1, L', r))
    | _, _ => none)
  | .lstore i => (match zin L (i + 1), st with
    | true, .long x :: r => zfc (zst2 L i (.long x)) (fun L' => some (e.2.2.1, L', r))
    | _, _ => none)
  | .lstore_n k => (match zin L (k.val + 1), st with
    | true, .long x :: r => zfc (zst2 L k.val (.long x)) (fun L' => some (e.2.2.1, L', r))
    | _, _ => none)
  | .astore i => (match zin L i, st with
    | true, .ref x :: r => zfc (zst1 L i (.ref x)) (fun L' => some (e.2.2.1, L', r))
    | true, .null :: r => zfc (zst1 L i .null) (fun L' => some (e.2.2.1, L', r))
    | _, _ => none)
  | .astore_n k => (match zin L k.val, st with
    | true, .ref x :: r => zfc (zst1 L k.val (.ref x)) (fun L' => some (e.2.2.1, L', r))
    | true, .null :: r => zfc (zst1 L k.val .null) (fun L' => some (e.2.2.1, L', r))
    | _, _ => none)
  | .iinc i _ => (match zin L i, zget L i with
    | true, some (.int x) => zfc (zst1 L i (.int (x + e.2.2.2.1))) (fun L' => some (e.2.2.1, L', st))
    | _, _ => none)
  | .goto _ => some (e.2.2.2.2, L, st)
  | .ifnull _ => (match st with
    | .ref _ :: r => some (e.2.2.1, L, r)
    | .null :: r => some (e.2.2.2.2, L, r)
    | _ => none)
  | .ifnonnull _ => (match st with
    | .ref _ :: r => some (e.2.2.2.2, L, r)
    | .null :: r => some (e.2.2.1, L, r)
    | _ => none)
  | .iadd => (match st with
    | .int y :: .int x :: r => some (e.2.2.1, L, .int (x + y) :: r)
    | _ => none)
  | .isub => (match st with
    | .int y :: .int x :: r => some (e.2.2.1, L, .int (x - y) :: r)
    | _ => none)
  | .imul => (match st with
    | .int y :: .int x :: r => some (e.2.2.1, L, .int (x * y) :: r)
    | _ => none)
  | .iand => (match st with
    | .int y :: .int x :: r => some (e.2.2.1, L, .int (x &&& y) :: r)
    | _ => none)
  | .ior => (match st with
    | .int y :: .int x :: r => some (e.2.2.1, L, .int (x ||| y) :: r)
    | _ => none)
  | .ishr => (match st with
    | .int y :: .int x :: r => some (e.2.2.1, L, .int (x >>> (y &&& 31)) :: r)
    | _ => none)
  | .ineg => (match st with
    | .int x :: r => some (e.2.2.1, L, .int (-x) :: r)
    | _ => none)
  | .ladd => (match st with
    | .long y :: .long x :: r => some (e.2.2.1, L, .long (x + y) :: r)
    | _ => none)
  | .lsub => (match st with
    | .long y :: .long x :: r => some (e.2.2.1, L, .long (x - y) :: r)
    | _ => none)
  | .lmul => (match st with
    | .long y :: .long x :: r => some (e.2.2.1, L, .long (x * y) :: r)
    | _ => none)
  | .land => (match st with
    | .long y :: .long x :: r => some (e.2.2.1, L, .long (x &&& y) :: r)
    | _ => none)
  | .lor => (match st with
    | .long y :: .long x :: r => some (e.2.2.1, L, .long (x ||| y) :: r)
    | _ => none)
  | .lneg => (match st with
    | .long x :: r => some (e.2.2.1, L, .long (-x) :: r)
    | _ => none)
  | .lshl => (match st with
    | .int y :: .long x :: r => some (e.2.2.1, L, .long (x <<< (y.toInt64 &&& 63)) :: r)
    | _ => none)
  | .lushr => (match st with
    | .int y :: .long x :: r => some (e.2.2.1, L, .long ((x.toUInt64 >>> (y.toInt64.toUInt64 &&& Int64.toUInt64 63)).toInt64) :: r)
    | _ => none)
  | .lcmp => (match st with
    | .long y :: .long x :: r => some (e.2.2.1, L, .int (lg_cmp x y) :: r)
    | _ => none)
  | .i2l => (match st with
    | .int x :: r => some (e.2.2.1, L, .long x.toInt64 :: r)
    | _ => none)
  | .l2i => (match st with
    | .long x :: r => some (e.2.2.1, L, .int x.toInt32 :: r)
    | _ => none)
  | .i2b => (match st with
    | .int x :: r => some (e.2.2.1, L, .int x.toInt8.toInt32 :: r)
    | _ => none)
  | .dup => (match st with
    | v :: r => (match zc1 v with
      | true => some (e.2.2.1, L, v :: v :: r)
      | false => none)
    | _ => none)
  | .pop => (match st with
    | v :: r => (match zc1 v with
      | true => some (e.2.2.1, L, r)
      | false => none)
    | _ => none)
  | .dup_x1 => (match st with
    | v :: w :: r => (match zc1 v, zc1 w with
      | true, true => some (e.2.2.1, L, v :: w :: v :: r)
      | _, _ => none)
    | _ => none)
  | _ => none
def zgo (ft : List (Nat × List zEn)) : Nat → Nat → zLo → List Value → Nat × zLo × List Value
  | 0, pc, L, st => (pc, L, st)
  | n + 1, pc, L, st => match zlk ft pc with
    | some e => (match zstp e L st with
      | some (p, L', s') => zgo ft n p L' s'
      | none => (pc, L, st))
    | none => (pc, L, st)
/-- the two roads of a comparison: target's, next's -/
def zbr (e : zEn) (st : List Value) : Option (Prop × Prop × List Value) :=
  match e.2.1 with
  | .ifCond c _ => (match st with
    | .int x :: r => (match c with
      | .eq => some (x = 0, ¬ x = 0, r)
      | .ne => some (¬ x = 0, x = 0, r)
      | .lt => some (x < 0, ¬ x < 0, r)
      | .ge => some (0 ≤ x, ¬ 0 ≤ x, r)
      | .gt => some (0 < x, ¬ 0 < x, r)
      | .le => some (x ≤ 0, ¬ x ≤ 0, r))
    | _ => none)
  | .if_icmp c _ => (match st with
    | .int y :: .int x :: r => (match c with
      | .eq => some (x = y, ¬ x = y, r)
      | .ne => some (¬ x = y, x = y, r)
      | .lt => some (x < y, ¬ x < y, r)
      | .ge => some (y ≤ x, ¬ y ≤ x, r)
      | .gt => some (y < x, ¬ y < x, r)
      | .le => some (x ≤ y, ¬ x ≤ y, r))
    | _ => none)
  | .if_acmp c _ => (match st with
    | .ref y :: .ref x :: r => (match c with
      | .eq => some (x = y, ¬ x = y, r)
      | .ne => some (¬ x = y, x = y, r))
    | _ => none)
  | _ => none
/-! what a method owes -/
def zO (X : zCx) (t : State) (r : zRs) (o : Outcome) : Prop := match r with
  | .inl v => o = .returned v
  | .inr E => ∃ (q : Nat) (ce : Cell), o = .threw q ∧ t.heap[q]? = some ce ∧ ce.vm = .none ∧ (zs X).vm.findClass E = some ce.cls
def zEnd (X : zCx) (n0 k0 : Nat) (st : State) (o : Outcome) (t : State) (Q : zRs → zHp → Prop) : Prop :=
  ∃ (r : zRs) (h' : zHp), zO X t r o ∧ Q r h' ∧ zR X h' t.heap ∧ n0 ≤ h'.2.1 ∧ k0 ≤ h'.2.2 ∧ st.WarmedH t.vm ∧ ∃ L : List Loc, st.sameButNew ({ t with vm := st.vm } : State) L (h'.2.1 - n0) (h'.2.2 - k0) ∧ ∀ q ∈ L, zB X ≤ q.base
def zF (X : zCx) (n0 k0 : Nat) (below : List Frame) (s : State) (Q : zRs → zHp → Prop) : State → Prop := fun t => ∃ o, t.status = .running ∧ Ended t below o ∧ zEnd X n0 k0 s o t Q
abbrev zFr : Type := Nat × Nat × Nat × Nat
def zRm (X : zCx) (f : zFr) : Room := { frames := f.1, cells := zB X + 601024 - f.2.2.1, slots := 7293000 - f.2.2.2, locals := f.2.1 }
def zE (X : zCx) (M : zMI) (n0 : Nat) (p : Program) (s : State) (m : MethodId) (meth : Method) (c : Code) : Prop :=
  zG X ∧ zMOK M ∧ p.tables.exec = Jvm.exec ∧ c.code = zCd M ∧ meth.sig.returnType = zRt M ∧ meth.locks = false ∧ c.maxLocals = zNL M ∧ s.vm.findClass (zNm M).cls = some m.cls ∧ (zs X).WarmedH s.vm ∧ s.heap.size = n0 ∧ meth.name = (zNm M).name ∧ c.exceptionTable.toList.map (fun h => (h.startPc, h.endPc, h.handlerPc, h.catchType)) = zHh M
/-- from here on the method comes to its end, with Q -/
def Z (X : zCx) (M : zMI) (f : zFr) (h : zHp) (pc : Nat) (L : zLo) (st : List Value) (Q : zRs → zHp → Prop) : Prop :=
  ∀ (p : Program) (e : Env) (s : State) (m : MethodId) (args : Array Value) (below : List Frame) (meth : Method) (c : Code) (H : Heap) (locs : List Loc) (ls : Array Slot),
    zE X M f.2.2.1 p s m meth c → zR X h H → f.2.2.1 ≤ h.2.1 → f.2.2.2 ≤ h.2.2 → (∀ q ∈ locs, zB X ≤ q.base) → zLs ls (zNL M) L →
    W p (zl X) e (zRm X f) s m args below meth c H locs (h.2.1 - f.2.2.1) (h.2.2 - f.2.2.2) (zF X f.2.2.1 f.2.2.2 below s Q) (F0 m pc ls st)
end
section
theorem zLs.inc {ls : Array Slot} {nL : Nat} {L : zLo} (h : zLs ls nL L) {i : Nat} {v w : Value} (hv : zget L i = some v) (hc : w.category = 1) (hi : zin L i = true) : ∃ (l : List (Nat × Value)) (k : Nat), l[k]? = some (i, v) ∧ lv_has ls nL l ∧ i < nL ∧ ∀ ls', lv_has ls' nL ((i, w) :: l.filter (fun q => !(q.1 == i) && !(q.1 + 1 == i && q.2.category == 2))) → zLs ls' nL (zst1 L i w) := by
  obtain ⟨h0, l, h1, h2⟩ := h
  have hi' := zin_len.mp hi
  obtain ⟨k, hk⟩ := List.getElem?_of_mem (h2 i v hv)
  refine ⟨l, k, hk, h1, by omega, fun ls' h' => ⟨by unfold zst1; rw [zput_len, zkill_len]; exact h0, _, h', fun j u hj => ?_⟩⟩
  unfold zst1 at hj
  rw [zget_put] at hj
  split at hj
  · rename_i e
    cases hj
    rw [e.1]
    exact List.mem_cons_self
  · rename_i e
    obtain ⟨g1, g2⟩ := zkill_get hj
    have hne : j ≠ i := fun q => e ⟨q, by rw [zin_len, zkill_len]; omega⟩
    refine List.mem_cons_of_mem _ (List.mem_filter.mpr ⟨h2 j u g1, ?_⟩)
    by_cases q : j + 1 = i
    · have := g2 q
      simp [hne, this]
    · simp [hne, q]
section ZR1
variable {X : zCx} {M : zMI} {f : zFr} {h : zHp} {pc : Nat} {L : zLo} {st : List Value} {Q : zRs → zHp → Prop}
set_option maxHeartbeats 4000000 in
theorem z_stp {e : zEn} {pc' : Nat} {L' : zLo} {st' : List Value} (hf : zlk (zFt M) pc = some e) (hs : zstp e L st = some (pc', L', st')) (k : Z X M f h pc' L' st' Q) : Z X M f h pc L st Q := by
  intro p ev s m args below meth c H locs ls E hR hn hk hlo hl
  obtain ⟨p0, ins, nx, v, t⟩ := e
  obtain ⟨hG, hM, hx, hb, -⟩ := id E
  cases ins with
  | iconst n =>
    obtain ⟨d, rfl, lt⟩ := zdn hM hf (n := 0) rfl
    simp only [zstp] at hs
    simp only [Option.some.injEq, Prod.mk.injEq] at hs
    obtain ⟨rfl, rfl, rfl⟩ := hs
    exact lv_iconst hx hb d (of_decide_eq_true lt) (k p ev s m args below meth c H locs ls E hR hn hk hlo hl)
  | bipush n =>
    obtain ⟨d, rfl, lt⟩ := zdn hM hf (n := 1) rfl
    simp only [zstp] at hs
    simp only [Option.some.injEq, Prod.mk.injEq] at hs
    obtain ⟨rfl, rfl, rfl⟩ := hs
    exact lv_bipush hx hb d (of_decide_eq_true lt) (k p ev s m args below meth c H locs ls E hR hn hk hlo hl)
  | sipush n =>
    obtain ⟨d, rfl, lt⟩ := zdn hM hf (n := 2) rfl
    simp only [zstp] at hs
    simp only [Option.some.injEq, Prod.mk.injEq] at hs
    obtain ⟨rfl, rfl, rfl⟩ := hs
    exact lv_sipush hx hb d (of_decide_eq_true lt) (k p ev s m args below meth c H locs ls E hR hn hk hlo hl)
  | lconst q =>
    obtain ⟨d, rfl, -⟩ := zdn hM hf (n := 0) rfl
    obtain ⟨kv, hkv⟩ := q
    simp only [zstp] at hs
    match kv, hkv, d, hs with
    | 0, hkv, d, hs =>
      simp only [Option.some.injEq, Prod.mk.injEq] at hs
      obtain ⟨rfl, rfl, rfl⟩ := hs
      exact lv_lconst hx hb d rfl (k p ev s m args below meth c H locs ls E hR hn hk hlo hl)
    | 1, hkv, d, hs =>
      simp only [Option.some.injEq, Prod.mk.injEq] at hs
      obtain ⟨rfl, rfl, rfl⟩ := hs
      exact lv_lconst hx hb d rfl (k p ev s m args below meth c H locs ls E hR hn hk hlo hl)
  | aconst_null =>
    obtain ⟨d, rfl, -⟩ := zdn hM hf (n := 0) rfl
    simp only [zstp] at hs
    simp only [Option.some.injEq, Prod.mk.injEq] at hs
    obtain ⟨rfl, rfl, rfl⟩ := hs
    exact lv_null hx hb d (k p ev s m args below meth c H locs ls E hR hn hk hlo hl)
  | iload i =>
    obtain ⟨d, rfl, -⟩ := zdn hM hf (n := 1) rfl
    simp only [zstp] at hs
    split at hs
    · rename_i hz
      simp only [Option.some.injEq, Prod.mk.injEq] at hs
      obtain ⟨rfl, rfl, rfl⟩ := hs
      exact lv_iload hx hb d (hl.at hz) (k p ev s m args below meth c H locs ls E hR hn hk hlo hl)
    · cases hs
  | iload_n q =>
    obtain ⟨d, rfl, -⟩ := zdn hM hf (n := 0) rfl
    simp only [zstp] at hs
    split at hs
    · rename_i hz
      simp only [Option.some.injEq, Prod.mk.injEq] at hs
      obtain ⟨rfl, rfl, rfl⟩ := hs
      exact lv_iload_n hx hb d rfl (hl.at hz) (k p ev s m args below meth c H locs ls E hR hn hk hlo hl)
    · cases hs
  | lload i =>
    obtain ⟨d, rfl, -⟩ := zdn hM hf (n := 1) rfl
    simp only [zstp] at hs
    split at hs
    · rename_i hz
      simp only [Option.some.injEq, Prod.mk.injEq] at hs
      obtain ⟨rfl, rfl, rfl⟩ := hs
      exact lv_lload hx hb d (hl.at hz) (k p ev s m args below meth c H locs ls E hR hn hk hlo hl)
    · cases hs
  | lload_n q =>
    obtain ⟨d, rfl, -⟩ := zdn hM hf (n := 0) rfl
    simp only [zstp] at hs
    split at hs
    · rename_i hz
      simp only [Option.some.injEq, Prod.mk.injEq] at hs
      obtain ⟨rfl, rfl, rfl⟩ := hs
      exact lv_lload_n hx hb d rfl (hl.at hz) (k p ev s m args below meth c H locs ls E hR hn hk hlo hl)
    · cases hs
  | aload i =>
    obtain ⟨d, rfl, -⟩ := zdn hM hf (n := 1) rfl
    simp only [zstp] at hs
    split at hs
    · rename_i hz
      simp only [Option.some.injEq, Prod.mk.injEq] at hs
      obtain ⟨rfl, rfl, rfl⟩ := hs
      exact lv_aload hx hb d (hl.at hz) (k p ev s m args below meth c H locs ls E hR hn hk hlo hl)
    · rename_i hz
      simp only [Option.some.injEq, Prod.mk.injEq] at hs
      obtain ⟨rfl, rfl, rfl⟩ := hs
      exact lv_aloadN hx hb d (hl.at hz) (k p ev s m args below meth c H locs ls E hR hn hk hlo hl)
    · cases hs
  | aload_n q =>
    obtain ⟨d, rfl, -⟩ := zdn hM hf (n := 0) rfl
    simp only [zstp] at hs
    split at hs
    · rename_i hz
      simp only [Option.some.injEq, Prod.mk.injEq] at hs
      obtain ⟨rfl, rfl, rfl⟩ := hs
      exact lv_aload_n hx hb d rfl (hl.at hz) (k p ev s m args below meth c H locs ls E hR hn hk hlo hl)
    · rename_i hz
      simp only [Option.some.injEq, Prod.mk.injEq] at hs
      obtain ⟨rfl, rfl, rfl⟩ := hs
      exact lv_aload_nN hx hb d rfl (hl.at hz) (k p ev s m args below meth c H locs ls E hR hn hk hlo hl)
    · cases hs
  | istore i =>
    obtain ⟨d, rfl, -⟩ := zdn hM hf (n := 1) rfl
    simp only [zstp] at hs
    split at hs
    · rename_i x9 r9 hz
      rw [zfc_eq] at hs
      simp only [Option.some.injEq, Prod.mk.injEq] at hs
      obtain ⟨rfl, rfl, rfl⟩ := hs
      obtain ⟨l9, g1, g2, g3⟩ := hl.st1 (v := .int x9) rfl hz
      exact lv_istore hx hb d g1 g2 rfl (fun ls' h' => k p ev s m args below meth c H locs ls' E hR hn hk hlo (g3 ls' h'))
    · cases hs
  | istore_n q =>
    obtain ⟨d, rfl, -⟩ := zdn hM hf (n := 0) rfl
    simp only [zstp] at hs
    split at hs
    · rename_i x9 r9 hz
      rw [zfc_eq] at hs
      simp only [Option.some.injEq, Prod.mk.injEq] at hs
      obtain ⟨rfl, rfl, rfl⟩ := hs
      obtain ⟨l9, g1, g2, g3⟩ := hl.st1 (v := .int x9) rfl hz
      exact lv_istore_n hx hb d rfl g1 g2 rfl (fun ls' h' => k p ev s m args below meth c H locs ls' E hR hn hk hlo (g3 ls' h'))
    · cases hs
  | lstore i =>
    obtain ⟨d, rfl, -⟩ := zdn hM hf (n := 1) rfl
    simp only [zstp] at hs
    split at hs
    · rename_i x9 r9 hz
      rw [zfc_eq] at hs
      simp only [Option.some.injEq, Prod.mk.injEq] at hs
      obtain ⟨rfl, rfl, rfl⟩ := hs
      obtain ⟨l9, g1, g2, g3⟩ := hl.st2 (v := .long x9) rfl hz
      exact lv_lstore hx hb d g1 g2 rfl (fun ls' h' => k p ev s m args below meth c H locs ls' E hR hn hk hlo (g3 ls' h'))
    · cases hs
  | lstore_n q =>
    obtain ⟨d, rfl, -⟩ := zdn hM hf (n := 0) rfl
    simp only [zstp] at hs
    split at hs
    · rename_i x9 r9 hz
      rw [zfc_eq] at hs
      simp only [Option.some.injEq, Prod.mk.injEq] at hs
      obtain ⟨rfl, rfl, rfl⟩ := hs
      obtain ⟨l9, g1, g2, g3⟩ := hl.st2 (v := .long x9) rfl hz
      exact lv_lstore_n hx hb d rfl g1 g2 rfl (fun ls' h' => k p ev s m args below meth c H locs ls' E hR hn hk hlo (g3 ls' h'))
    · cases hs
  | astore i =>
    obtain ⟨d, rfl, -⟩ := zdn hM hf (n := 1) rfl
    simp only [zstp] at hs
    split at hs
    · rename_i x9 r9 hz
      rw [zfc_eq] at hs
      simp only [Option.some.injEq, Prod.mk.injEq] at hs
      obtain ⟨rfl, rfl, rfl⟩ := hs
      obtain ⟨l9, g1, g2, g3⟩ := hl.st1 (v := .ref x9) rfl hz
      exact lv_astore hx hb d g1 g2 rfl (fun ls' h' => k p ev s m args below meth c H locs ls' E hR hn hk hlo (g3 ls' h'))
    · rename_i hz
      rw [zfc_eq] at hs
      simp only [Option.some.injEq, Prod.mk.injEq] at hs
      obtain ⟨rfl, rfl, rfl⟩ := hs
      obtain ⟨l9, g1, g2, g3⟩ := hl.st1 (v := .null) rfl hz
      exact lv_astoreN hx hb d g1 g2 rfl (fun ls' h' => k p ev s m args below meth c H locs ls' E hR hn hk hlo (g3 ls' h'))
    · cases hs
  | astore_n q =>
    obtain ⟨d, rfl, -⟩ := zdn hM hf (n := 0) rfl
    simp only [zstp] at hs
    split at hs
    · rename_i x9 r9 hz
      rw [zfc_eq] at hs
      simp only [Option.some.injEq, Prod.mk.injEq] at hs
      obtain ⟨rfl, rfl, rfl⟩ := hs
      obtain ⟨l9, g1, g2, g3⟩ := hl.st1 (v := .ref x9) rfl hz
      exact lv_astore_n hx hb d rfl g1 g2 rfl (fun ls' h' => k p ev s m args below meth c H locs ls' E hR hn hk hlo (g3 ls' h'))
    · rename_i hz
      rw [zfc_eq] at hs
      simp only [Option.some.injEq, Prod.mk.injEq] at hs
      obtain ⟨rfl, rfl, rfl⟩ := hs
      obtain ⟨l9, g1, g2, g3⟩ := hl.st1 (v := .null) rfl hz
      exact lv_astore_nN hx hb d rfl g1 g2 rfl (fun ls' h' => k p ev s m args below meth c H locs ls' E hR hn hk hlo (g3 ls' h'))
    · cases hs
  | iinc i n =>
    obtain ⟨d, rfl, lt⟩ := zdn hM hf (n := 2) rfl
    simp only [zstp] at hs
    split at hs
    · rename_i hz hy
      rw [zfc_eq] at hs
      simp only [Option.some.injEq, Prod.mk.injEq] at hs
      obtain ⟨rfl, rfl, rfl⟩ := hs
      obtain ⟨l9, q9, g0, g1, g2, g3⟩ := hl.inc hy (w := .int (_ + v)) rfl hz
      exact lv_iinc hx hb d g1 g0 (by rw [of_decide_eq_true lt]) g2 rfl (fun ls' h' => k p ev s m args below meth c H locs ls' E hR hn hk hlo (g3 ls' h'))
    · cases hs
  | goto o =>
    obtain ⟨d, rfl, lt⟩ := zdn hM hf (n := 2) rfl
    simp only [zstp] at hs
    simp only [Option.some.injEq, Prod.mk.injEq] at hs
    obtain ⟨rfl, rfl, rfl⟩ := hs
    exact lv_goto hx hb d (of_decide_eq_true lt) (k p ev s m args below meth c H locs ls E hR hn hk hlo hl)
  | ifnull o =>
    obtain ⟨d, rfl, lt⟩ := zdn hM hf (n := 2) rfl
    simp only [zstp] at hs
    split at hs
    · simp only [Option.some.injEq, Prod.mk.injEq] at hs
      obtain ⟨rfl, rfl, rfl⟩ := hs
      exact lv_ifnull hx hb d (k p ev s m args below meth c H locs ls E hR hn hk hlo hl)
    · simp only [Option.some.injEq, Prod.mk.injEq] at hs
      obtain ⟨rfl, rfl, rfl⟩ := hs
      exact lv_ifnullN hx hb d (of_decide_eq_true lt) (k p ev s m args below meth c H locs ls E hR hn hk hlo hl)
    · cases hs
  | ifnonnull o =>
    obtain ⟨d, rfl, lt⟩ := zdn hM hf (n := 2) rfl
    simp only [zstp] at hs
    split at hs
    · simp only [Option.some.injEq, Prod.mk.injEq] at hs
      obtain ⟨rfl, rfl, rfl⟩ := hs
      exact lv_ifnonnull hx hb d (of_decide_eq_true lt) (k p ev s m args below meth c H locs ls E hR hn hk hlo hl)
    · simp only [Option.some.injEq, Prod.mk.injEq] at hs
      obtain ⟨rfl, rfl, rfl⟩ := hs
      exact lv_ifnonnullN hx hb d (k p ev s m args below meth c H locs ls E hR hn hk hlo hl)
    · cases hs
  | iadd =>
    obtain ⟨d, rfl, -⟩ := zdn hM hf (n := 0) rfl
    simp only [zstp] at hs
    split at hs
    · simp only [Option.some.injEq, Prod.mk.injEq] at hs
      obtain ⟨rfl, rfl, rfl⟩ := hs
      exact lv_iadd hx hb d (k p ev s m args below meth c H locs ls E hR hn hk hlo hl)
    · cases hs
  | isub =>
    obtain ⟨d, rfl, -⟩ := zdn hM hf (n := 0) rfl
    simp only [zstp] at hs
    split at hs
    · simp only [Option.some.injEq, Prod.mk.injEq] at hs
      obtain ⟨rfl, rfl, rfl⟩ := hs
      exact lv_isub hx hb d (k p ev s m args below meth c H locs ls E hR hn hk hlo hl)
    · cases hs
  | imul =>
    obtain ⟨d, rfl, -⟩ := zdn hM hf (n := 0) rfl
    simp only [zstp] at hs
    split at hs
    · simp only [Option.some.injEq, Prod.mk.injEq] at hs
      obtain ⟨rfl, rfl, rfl⟩ := hs
      exact lv_imul hx hb d (k p ev s m args below meth c H locs ls E hR hn hk hlo hl)
    · cases hs
  | iand =>
    obtain ⟨d, rfl, -⟩ := zdn hM hf (n := 0) rfl
    simp only [zstp] at hs
    split at hs
    · simp only [Option.some.injEq, Prod.mk.injEq] at hs
      obtain ⟨rfl, rfl, rfl⟩ := hs
      exact lv_iand hx hb d (k p ev s m args below meth c H locs ls E hR hn hk hlo hl)
    · cases hs
  | ior =>
    obtain ⟨d, rfl, -⟩ := zdn hM hf (n := 0) rfl
    simp only [zstp] at hs
    split at hs
    · simp only [Option.some.injEq, Prod.mk.injEq] at hs
      obtain ⟨rfl, rfl, rfl⟩ := hs
      exact lv_ior hx hb d (k p ev s m args below meth c H locs ls E hR hn hk hlo hl)
    · cases hs
  | ishr =>
    obtain ⟨d, rfl, -⟩ := zdn hM hf (n := 0) rfl
    simp only [zstp] at hs
    split at hs
    · simp only [Option.some.injEq, Prod.mk.injEq] at hs
      obtain ⟨rfl, rfl, rfl⟩ := hs
      exact lv_ishr hx hb d (k p ev s m args below meth c H locs ls E hR hn hk hlo hl)
    · cases hs
  | ineg =>
    obtain ⟨d, rfl, -⟩ := zdn hM hf (n := 0) rfl
    simp only [zstp] at hs
    split at hs
    · simp only [Option.some.injEq, Prod.mk.injEq] at hs
      obtain ⟨rfl, rfl, rfl⟩ := hs
      exact lv_ineg hx hb d (k p ev s m args below meth c H locs ls E hR hn hk hlo hl)
    · cases hs
  | ladd =>
    obtain ⟨d, rfl, -⟩ := zdn hM hf (n := 0) rfl
    simp only [zstp] at hs
    split at hs
    · simp only [Option.some.injEq, Prod.mk.injEq] at hs
      obtain ⟨rfl, rfl, rfl⟩ := hs
      exact lv_ladd hx hb d (k p ev s m args below meth c H locs ls E hR hn hk hlo hl)
    · cases hs
  | lsub =>
    obtain ⟨d, rfl, -⟩ := zdn hM hf (n := 0) rfl
    simp only [zstp] at hs
    split at hs
    · simp only [Option.some.injEq, Prod.mk.injEq] at hs
      obtain ⟨rfl, rfl, rfl⟩ := hs
      exact lv_lsub hx hb d (k p ev s m args below meth c H locs ls E hR hn hk hlo hl)
    · cases hs
  | lmul =>
    obtain ⟨d, rfl, -⟩ := zdn hM hf (n := 0) rfl
    simp only [zstp] at hs
    split at hs
    · simp only [Option.some.injEq, Prod.mk.injEq] at hs
      obtain ⟨rfl, rfl, rfl⟩ := hs
      exact lv_lmul hx hb d (k p ev s m args below meth c H locs ls E hR hn hk hlo hl)
    · cases hs
  | land =>
    obtain ⟨d, rfl, -⟩ := zdn hM hf (n := 0) rfl
    simp only [zstp] at hs
    split at hs
    · simp only [Option.some.injEq, Prod.mk.injEq] at hs
      obtain ⟨rfl, rfl, rfl⟩ := hs
      exact lv_land hx hb d (k p ev s m args below meth c H locs ls E hR hn hk hlo hl)
    · cases hs
  | lor =>
    obtain ⟨d, rfl, -⟩ := zdn hM hf (n := 0) rfl
    simp only [zstp] at hs
    split at hs
    · simp only [Option.some.injEq, Prod.mk.injEq] at hs
      obtain ⟨rfl, rfl, rfl⟩ := hs
      exact lv_lor hx hb d (k p ev s m args below meth c H locs ls E hR hn hk hlo hl)
    · cases hs
  | lneg =>
    obtain ⟨d, rfl, -⟩ := zdn hM hf (n := 0) rfl
    simp only [zstp] at hs
    split at hs
    · simp only [Option.some.injEq, Prod.mk.injEq] at hs
      obtain ⟨rfl, rfl, rfl⟩ := hs
      exact lv_lneg hx hb d (k p ev s m args below meth c H locs ls E hR hn hk hlo hl)
    · cases hs
  | lshl =>
    obtain ⟨d, rfl, -⟩ := zdn hM hf (n := 0) rfl
    simp only [zstp] at hs
    split at hs
    · simp only [Option.some.injEq, Prod.mk.injEq] at hs
      obtain ⟨rfl, rfl, rfl⟩ := hs
      exact lv_lshl hx hb d rfl (k p ev s m args below meth c H locs ls E hR hn hk hlo hl)
    · cases hs
  | lushr =>
    obtain ⟨d, rfl, -⟩ := zdn hM hf (n := 0) rfl
    simp only [zstp] at hs
    split at hs
    · simp only [Option.some.injEq, Prod.mk.injEq] at hs
      obtain ⟨rfl, rfl, rfl⟩ := hs
      exact lv_lushr hx hb d rfl (k p ev s m args below meth c H locs ls E hR hn hk hlo hl)
    · cases hs
  | i2l =>
    obtain ⟨d, rfl, -⟩ := zdn hM hf (n := 0) rfl
    simp only [zstp] at hs
    split at hs
    · simp only [Option.some.injEq, Prod.mk.injEq] at hs
      obtain ⟨rfl, rfl, rfl⟩ := hs
      exact lv_i2l hx hb d rfl (k p ev s m args below meth c H locs ls E hR hn hk hlo hl)
    · cases hs
  | l2i =>
    obtain ⟨d, rfl, -⟩ := zdn hM hf (n := 0) rfl
    simp only [zstp] at hs
    split at hs
    · simp only [Option.some.injEq, Prod.mk.injEq] at hs
      obtain ⟨rfl, rfl, rfl⟩ := hs
      exact lv_l2i hx hb d rfl (k p ev s m args below meth c H locs ls E hR hn hk hlo hl)
    · cases hs
  | i2b =>
    obtain ⟨d, rfl, -⟩ := zdn hM hf (n := 0) rfl
    simp only [zstp] at hs
    split at hs
    · simp only [Option.some.injEq, Prod.mk.injEq] at hs
      obtain ⟨rfl, rfl, rfl⟩ := hs
      exact lv_i2b hx hb d rfl (k p ev s m args below meth c H locs ls E hR hn hk hlo hl)
    · cases hs
  | lcmp =>
    obtain ⟨d, rfl, -⟩ := zdn hM hf (n := 0) rfl
    simp only [zstp] at hs
    split at hs
    · simp only [Option.some.injEq, Prod.mk.injEq] at hs
      obtain ⟨rfl, rfl, rfl⟩ := hs
      exact W.lcmp hx hb d (k p ev s m args below meth c H locs ls E hR hn hk hlo hl)
    · cases hs
  | dup =>
    obtain ⟨d, rfl, -⟩ := zdn hM hf (n := 0) rfl
    simp only [zstp] at hs
    split at hs
    · split at hs
      · rename_i hz
        simp only [Option.some.injEq, Prod.mk.injEq] at hs
        obtain ⟨rfl, rfl, rfl⟩ := hs
        exact lv_dup hx hb d (zc1_ok hz) (k p ev s m args below meth c H locs ls E hR hn hk hlo hl)
      · cases hs
    · cases hs
  | pop =>
    obtain ⟨d, rfl, -⟩ := zdn hM hf (n := 0) rfl
    simp only [zstp] at hs
    split at hs
    · split at hs
      · rename_i hz
        simp only [Option.some.injEq, Prod.mk.injEq] at hs
        obtain ⟨rfl, rfl, rfl⟩ := hs
        exact lv_pop hx hb d (zc1_ok hz) (k p ev s m args below meth c H locs ls E hR hn hk hlo hl)
      · cases hs
    · cases hs
  | dup_x1 =>
    obtain ⟨d, rfl, -⟩ := zdn hM hf (n := 0) rfl
    simp only [zstp] at hs
    split at hs
    · split at hs
      · rename_i hz hy
        simp only [Option.some.injEq, Prod.mk.injEq] at hs
        obtain ⟨rfl, rfl, rfl⟩ := hs
        exact lv_dup_x1 hx hb d (zc1_ok hz) (zc1_ok hy) (k p ev s m args below meth c H locs ls E hR hn hk hlo hl)
      · cases hs
    · cases hs
  | _ => simp [zstp] at hs
theorem z_go (n : Nat) {pc' : Nat} {L' : zLo} {st' : List Value} (hg : zgo (zFt M) n pc L st = (pc', L', st')) (k : Z X M f h pc' L' st' Q) : Z X M f h pc L st Q := by
  induction n generalizing pc L st with
  | zero =>
    simp only [zgo, Prod.mk.injEq] at hg
    obtain ⟨rfl, rfl, rfl⟩ := hg
    exact k
  | succ n ih =>
    simp only [zgo] at hg
    split at hg
    · rename_i e he
      split at hg
      · rename_i p9 L9 s9 hz
        exact z_stp he hz (ih hg)
      · simp only [Prod.mk.injEq] at hg
        obtain ⟨rfl, rfl, rfl⟩ := hg
        exact k
    · simp only [Prod.mk.injEq] at hg
      obtain ⟨rfl, rfl, rfl⟩ := hg
      exact k
set_option maxHeartbeats 1000000 in
theorem z_br {e : zEn} {ct cf : Prop} {st' : List Value} (hf : zlk (zFt M) pc = some e) (hs : zbr e st = some (ct, cf, st')) (kt : ct → Z X M f h e.2.2.2.2 L st' Q) (kf : cf → Z X M f h e.2.2.1 L st' Q) : Z X M f h pc L st Q := by
  intro p ev s m args below meth c H locs ls E hR hn hk hlo hl
  obtain ⟨p0, ins, nx, v, t⟩ := e
  obtain ⟨hG, hM, hx, hb, -⟩ := id E
  cases ins with
  | ifCond b o =>
    obtain ⟨d, rfl, lt⟩ := zdn hM hf (n := 2) rfl
    simp only [zbr] at hs
    split at hs
    · cases b with
      | eq =>
        simp only [Option.some.injEq, Prod.mk.injEq] at hs
        obtain ⟨rfl, rfl, rfl⟩ := hs
        exact lv_if_eq hx hb d (of_decide_eq_true lt) (fun q => kt q p ev s m args below meth c H locs ls E hR hn hk hlo hl) (fun q => kf q p ev s m args below meth c H locs ls E hR hn hk hlo hl)
      | ne =>
        simp only [Option.some.injEq, Prod.mk.injEq] at hs
        obtain ⟨rfl, rfl, rfl⟩ := hs
        exact lv_if_ne hx hb d (of_decide_eq_true lt) (fun q => kt q p ev s m args below meth c H locs ls E hR hn hk hlo hl) (fun q => kf q p ev s m args below meth c H locs ls E hR hn hk hlo hl)
      | lt =>
        simp only [Option.some.injEq, Prod.mk.injEq] at hs
        obtain ⟨rfl, rfl, rfl⟩ := hs
        exact lv_if_lt hx hb d (of_decide_eq_true lt) (fun q => kt q p ev s m args below meth c H locs ls E hR hn hk hlo hl) (fun q => kf q p ev s m args below meth c H locs ls E hR hn hk hlo hl)
      | ge =>
        simp only [Option.some.injEq, Prod.mk.injEq] at hs
        obtain ⟨rfl, rfl, rfl⟩ := hs
        exact lv_if_ge hx hb d (of_decide_eq_true lt) (fun q => kt q p ev s m args below meth c H locs ls E hR hn hk hlo hl) (fun q => kf q p ev s m args below meth c H locs ls E hR hn hk hlo hl)
      | gt =>
        simp only [Option.some.injEq, Prod.mk.injEq] at hs
        obtain ⟨rfl, rfl, rfl⟩ := hs
        exact lv_if_gt hx hb d (of_decide_eq_true lt) (fun q => kt q p ev s m args below meth c H locs ls E hR hn hk hlo hl) (fun q => kf q p ev s m args below meth c H locs ls E hR hn hk hlo hl)
      | le =>
        simp only [Option.some.injEq, Prod.mk.injEq] at hs
        obtain ⟨rfl, rfl, rfl⟩ := hs
        exact lv_if_le hx hb d (of_decide_eq_true lt) (fun q => kt q p ev s m args below meth c H locs ls E hR hn hk hlo hl) (fun q => kf q p ev s m args below meth c H locs ls E hR hn hk hlo hl)
    · cases hs
  | if_icmp b o =>
    obtain ⟨d, rfl, lt⟩ := zdn hM hf (n := 2) rfl
    simp only [zbr] at hs
    split at hs
    · cases b with
      | eq =>
        simp only [Option.some.injEq, Prod.mk.injEq] at hs
        obtain ⟨rfl, rfl, rfl⟩ := hs
        exact lv_icmp_eq hx hb d (of_decide_eq_true lt) (fun q => kt q p ev s m args below meth c H locs ls E hR hn hk hlo hl) (fun q => kf q p ev s m args below meth c H locs ls E hR hn hk hlo hl)
      | ne =>
        simp only [Option.some.injEq, Prod.mk.injEq] at hs
        obtain ⟨rfl, rfl, rfl⟩ := hs
        exact lv_icmp_ne hx hb d (of_decide_eq_true lt) (fun q => kt q p ev s m args below meth c H locs ls E hR hn hk hlo hl) (fun q => kf q p ev s m args below meth c H locs ls E hR hn hk hlo hl)
      | lt =>
        simp only [Option.some.injEq, Prod.mk.injEq] at hs
        obtain ⟨rfl, rfl, rfl⟩ := hs
        exact lv_icmp_lt hx hb d (of_decide_eq_true lt) (fun q => kt q p ev s m args below meth c H locs ls E hR hn hk hlo hl) (fun q => kf q p ev s m args below meth c H locs ls E hR hn hk hlo hl)
      | ge =>
        simp only [Option.some.injEq, Prod.mk.injEq] at hs
        obtain ⟨rfl, rfl, rfl⟩ := hs
        exact lv_icmp_ge hx hb d (of_decide_eq_true lt) (fun q => kt q p ev s m args below meth c H locs ls E hR hn hk hlo hl) (fun q => kf q p ev s m args below meth c H locs ls E hR hn hk hlo hl)
      | gt =>
        simp only [Option.some.injEq, Prod.mk.injEq] at hs
        obtain ⟨rfl, rfl, rfl⟩ := hs
        exact lv_icmp_gt hx hb d (of_decide_eq_true lt) (fun q => kt q p ev s m args below meth c H locs ls E hR hn hk hlo hl) (fun q => kf q p ev s m args below meth c H locs ls E hR hn hk hlo hl)
      | le =>
        simp only [Option.some.injEq, Prod.mk.injEq] at hs
        obtain ⟨rfl, rfl, rfl⟩ := hs
        exact lv_icmp_le hx hb d (of_decide_eq_true lt) (fun q => kt q p ev s m args below meth c H locs ls E hR hn hk hlo hl) (fun q => kf q p ev s m args below meth c H locs ls E hR hn hk hlo hl)
    · cases hs
  | if_acmp b o =>
    obtain ⟨d, rfl, lt⟩ := zdn hM hf (n := 2) rfl
    simp only [zbr] at hs
    split at hs
    · rename_i y9 x9 r9
      cases b with
      | eq =>
        simp only [Option.some.injEq, Prod.mk.injEq] at hs
        obtain ⟨rfl, rfl, rfl⟩ := hs
        exact lv_acmp_eq (rx := some x9) (ry := some y9) hx hb d (of_decide_eq_true lt) (fun q => kt (Option.some.inj q) p ev s m args below meth c H locs ls E hR hn hk hlo hl) (fun q => kf (fun z => q (congrArg some z)) p ev s m args below meth c H locs ls E hR hn hk hlo hl)
      | ne =>
        simp only [Option.some.injEq, Prod.mk.injEq] at hs
        obtain ⟨rfl, rfl, rfl⟩ := hs
        exact lv_acmp_ne (rx := some x9) (ry := some y9) hx hb d (of_decide_eq_true lt) (fun q => kt (fun z => q (congrArg some z)) p ev s m args below meth c H locs ls E hR hn hk hlo hl) (fun q => kf (Option.some.inj q) p ev s m args below meth c H locs ls E hR hn hk hlo hl)
    · cases hs
  | _ => simp [zbr] at hs
end ZR1
end
section
/-! the links of the tables, by number: fields, methods, methods across the nest, classes -/
def zFR : List (String × Nat × String × String × String) := [("ShadowWard$Memory", 9, "ShadowWard$Memory", "size", "I"),
  ("ShadowWard$Heap", 35, "ShadowWard$Memory", "size", "I"),
  ("ShadowWard", 164, "ShadowWard$Memory", "size", "I"),
  ("ShadowWard$Memory", 15, "ShadowWard$Memory", "stackStart", "I"),
  ("ShadowWard$Globals", 26, "ShadowWard$Memory", "stackStart", "I"),
  ("ShadowWard$Frames", 52, "ShadowWard$Memory", "stackStart", "I"),
  ("ShadowWard", 276, "ShadowWard$Memory", "stackStart", "I"),
  ("ShadowWard$Memory", 18, "ShadowWard$Memory", "heapStart", "I"),
  ("ShadowWard$Heap", 43, "ShadowWard$Memory", "heapStart", "I"),
  ("ShadowWard$Frames", 37, "ShadowWard$Memory", "heapStart", "I"),
  ("ShadowWard", 283, "ShadowWard$Memory", "heapStart", "I"),
  ("ShadowWard$Memory", 21, "ShadowWard$Memory", "bytes", "[I"),
  ("ShadowWard$Memory", 25, "ShadowWard$Memory", "shadows", "[I"),
  ("java/util/ArrayList", 39, "java/util/ArrayList", "DEFAULTCAPACITY_EMPTY_ELEMENTDATA", "[Ljava/lang/Object;"),
  ("java/util/ArrayList", 9, "java/util/ArrayList", "elementData", "[Ljava/lang/Object;"),
  ("java/util/ArrayList", 48, "java/util/ArrayList", "size", "I"),
  ("java/util/AbstractList", 7, "java/util/AbstractList", "modCount", "I"),
  ("java/util/ArrayList", 63, "java/util/ArrayList", "modCount", "I"),
  ("ShadowWard$Globals", 18, "ShadowWard$Globals", "memory", "LShadowWard$Memory;"),
  ("ShadowWard$Globals", 12, "ShadowWard$Globals", "regions", "Ljava/util/ArrayList;"),
  ("ShadowWard$LostSearch", 78, "ShadowWard$Globals", "regions", "Ljava/util/ArrayList;"),
  ("ShadowWard", 224, "ShadowWard$Globals", "regions", "Ljava/util/ArrayList;"),
  ("ShadowWard$Frames", 18, "ShadowWard$Frames", "memory", "LShadowWard$Memory;"),
  ("ShadowWard$Frames", 12, "ShadowWard$Frames", "frames", "Ljava/util/ArrayList;"),
  ("ShadowWard$LostSearch", 94, "ShadowWard$Frames", "frames", "Ljava/util/ArrayList;"),
  ("ShadowWard", 250, "ShadowWard$Frames", "frames", "Ljava/util/ArrayList;"),
  ("ShadowWard$Heap", 31, "ShadowWard$Heap", "memory", "LShadowWard$Memory;"),
  ("ShadowWard$Heap", 40, "ShadowWard$Heap", "mostHeldBytes", "I"),
  ("ShadowWard", 221, "ShadowWard$Heap", "mostHeldBytes", "I"),
  ("ShadowWard$Heap", 12, "ShadowWard$Heap", "blocks", "Ljava/util/ArrayList;"),
  ("ShadowWard$LostSearch", 46, "ShadowWard$Heap", "blocks", "Ljava/util/ArrayList;"),
  ("ShadowWard", 202, "ShadowWard$Heap", "blocks", "Ljava/util/ArrayList;"),
  ("ShadowWard$Heap", 18, "ShadowWard$Heap", "quarantine", "Ljava/util/ArrayList;"),
  ("ShadowWard", 212, "ShadowWard$Heap", "quarantine", "Ljava/util/ArrayList;"),
  ("ShadowWard$Heap", 48, "ShadowWard$Heap", "owners", "[LShadowWard$Block;"),
  ("ShadowWard$Heap", 21, "ShadowWard$Heap", "liveCount", "I"),
  ("ShadowWard$LostSearch", 69, "ShadowWard$Heap", "liveCount", "I"),
  ("ShadowWard", 227, "ShadowWard$Heap", "liveCount", "I"),
  ("ShadowWard$Heap", 25, "ShadowWard$Heap", "liveBytes", "I"),
  ("ShadowWard", 233, "ShadowWard$Heap", "liveBytes", "I"),
  ("ShadowWard$Heap", 28, "ShadowWard$Heap", "heldBytes", "I"),
  ("ShadowWard", 230, "ShadowWard$Heap", "heldBytes", "I"),
  ("ShadowWard$LostSearch", 18, "ShadowWard$LostSearch", "memory", "LShadowWard$Memory;"),
  ("ShadowWard$LostSearch", 22, "ShadowWard$LostSearch", "globals", "LShadowWard$Globals;"),
  ("ShadowWard$LostSearch", 26, "ShadowWard$LostSearch", "frames", "LShadowWard$Frames;"),
  ("ShadowWard$LostSearch", 30, "ShadowWard$LostSearch", "heap", "LShadowWard$Heap;"),
  ("ShadowWard$LostSearch", 12, "ShadowWard$LostSearch", "found", "Ljava/util/ArrayList;"),
  ("ShadowWard", 12, "ShadowWard", "memory", "LShadowWard$Memory;"),
  ("ShadowWard", 23, "ShadowWard", "globals", "LShadowWard$Globals;"),
  ("ShadowWard", 30, "ShadowWard", "frames", "LShadowWard$Frames;"),
  ("ShadowWard", 39, "ShadowWard", "heap", "LShadowWard$Heap;"),
  ("ShadowWard", 48, "ShadowWard", "lostSearch", "LShadowWard$LostSearch;"),
  ("ShadowWard", 55, "ShadowWard", "reports", "Ljava/util/ArrayList;"),
  ("ShadowWard$Report", 30, "ShadowWard$Report", "kind", "I"),
  ("ShadowWard$Report", 33, "ShadowWard$Report", "address", "I"),
  ("ShadowWard$Report", 36, "ShadowWard$Report", "bytes", "I"),
  ("ShadowWard$Report", 39, "ShadowWard$Report", "readOrWrite", "I"),
  ("ShadowWard$Report", 9, "ShadowWard$Report", "place", "I"),
  ("ShadowWard$Report", 15, "ShadowWard$Report", "number", "I"),
  ("ShadowWard$Report", 18, "ShadowWard$Report", "far", "I"),
  ("ShadowWard$Report", 21, "ShadowWard$Report", "side", "I"),
  ("ShadowWard$Report", 24, "ShadowWard$Report", "siteGiven", "I"),
  ("ShadowWard$Report", 27, "ShadowWard$Report", "siteFreed", "I"),
  ("java/lang/Throwable", 198, "java/lang/Throwable", "backtrace", "Ljava/lang/Object;"),
  ("java/lang/Throwable", 13, "java/lang/Throwable", "UNASSIGNED_STACK", "[Ljava/lang/StackTraceElement;"),
  ("java/lang/Throwable", 20, "java/lang/Throwable", "SUPPRESSED_SENTINEL", "Ljava/util/List;"),
  ("java/lang/Throwable", 198, "java/lang/Throwable", "backtrace", "Ljava/lang/Object;"),
  ("java/lang/Throwable", 31, "java/lang/Throwable", "detailMessage", "Ljava/lang/String;"),
  ("java/lang/Throwable", 7, "java/lang/Throwable", "cause", "Ljava/lang/Throwable;"),
  ("java/lang/Throwable", 17, "java/lang/Throwable", "stackTrace", "[Ljava/lang/StackTraceElement;"),
  ("java/lang/Throwable", 24, "java/lang/Throwable", "suppressedExceptions", "Ljava/util/List;"),
  ("ShadowWard$Region", 7, "ShadowWard$Region", "place", "I"),
  ("ShadowWard$Report", 42, "ShadowWard$Region", "place", "I"),
  ("ShadowWard$Region", 13, "ShadowWard$Region", "number", "I"),
  ("ShadowWard$Report", 45, "ShadowWard$Region", "number", "I"),
  ("ShadowWard", 215, "ShadowWard$Block", "number", "I"),
  ("ShadowWard$Region", 16, "ShadowWard$Region", "address", "I"),
  ("ShadowWard$Heap", 76, "ShadowWard$Block", "address", "I"),
  ("ShadowWard$LostSearch", 106, "ShadowWard$Region", "address", "I"),
  ("ShadowWard$Block", 39, "ShadowWard$Block", "address", "I"),
  ("ShadowWard", 97, "ShadowWard$Variable", "address", "I"),
  ("ShadowWard$Frames", 81, "ShadowWard$Variable", "address", "I"),
  ("ShadowWard$LostSearch", 124, "ShadowWard$Block", "address", "I"),
  ("ShadowWard", 113, "ShadowWard$Block", "address", "I"),
  ("ShadowWard", 300, "ShadowWard$Region", "address", "I"),
  ("ShadowWard$Region", 19, "ShadowWard$Region", "size", "I"),
  ("ShadowWard$Block", 42, "ShadowWard$Block", "size", "I"),
  ("ShadowWard$Heap", 114, "ShadowWard$Block", "size", "I"),
  ("ShadowWard$Frames", 82, "ShadowWard$Variable", "size", "I"),
  ("ShadowWard", 128, "ShadowWard$Block", "size", "I"),
  ("ShadowWard$Region", 22, "ShadowWard$Region", "end", "I"),
  ("ShadowWard$Globals", 52, "ShadowWard$Region", "end", "I"),
  ("ShadowWard$LostSearch", 109, "ShadowWard$Region", "end", "I"),
  ("ShadowWard$LostSearch", 125, "ShadowWard$Block", "end", "I"),
  ("ShadowWard$Region", 25, "ShadowWard$Region", "siteGiven", "I"),
  ("ShadowWard$Report", 53, "ShadowWard$Region", "siteGiven", "I"),
  ("ShadowWard$Block", 45, "ShadowWard$Block", "siteGiven", "I"),
  ("ShadowWard$Report", 54, "ShadowWard$Region", "siteFreed", "I"),
  ("ShadowWard$Block", 48, "ShadowWard$Block", "siteFreed", "I"),
  ("ShadowWard$Heap", 111, "ShadowWard$Block", "siteFreed", "I"),
  ("ShadowWard$Frame", 16, "ShadowWard$Frame", "address", "I"),
  ("ShadowWard$Frames", 49, "ShadowWard$Frame", "address", "I"),
  ("ShadowWard$Frame", 20, "ShadowWard$Frame", "bytes", "I"),
  ("ShadowWard$Frames", 90, "ShadowWard$Frame", "bytes", "I"),
  ("ShadowWard$Frame", 10, "ShadowWard$Frame", "variables", "Ljava/util/ArrayList;"),
  ("ShadowWard$LostSearch", 98, "ShadowWard$Frame", "variables", "Ljava/util/ArrayList;"),
  ("ShadowWard$Frames", 70, "ShadowWard$Frame", "variables", "Ljava/util/ArrayList;"),
  ("ShadowWard", 254, "ShadowWard$Frame", "variables", "Ljava/util/ArrayList;"),
  ("ShadowWard$Variable", 9, "ShadowWard$Variable", "inScope", "Z"),
  ("ShadowWard$LostSearch", 103, "ShadowWard$Variable", "inScope", "Z"),
  ("ShadowWard$Frames", 93, "ShadowWard$Variable", "inScope", "Z"),
  ("ShadowWard$Block", 19, "ShadowWard$Block", "kind", "I"),
  ("ShadowWard", 264, "ShadowWard$Block", "kind", "I"),
  ("ShadowWard$Block", 22, "ShadowWard$Block", "chunk", "I"),
  ("ShadowWard$Heap", 83, "ShadowWard$Block", "chunk", "I"),
  ("ShadowWard$Block", 28, "ShadowWard$Block", "chunkBytes", "I"),
  ("ShadowWard$Heap", 73, "ShadowWard$Block", "chunkBytes", "I"),
  ("ShadowWard$Block", 15, "ShadowWard$Block", "state", "I"),
  ("ShadowWard$Heap", 108, "ShadowWard$Block", "state", "I"),
  ("ShadowWard", 261, "ShadowWard$Block", "state", "I"),
  ("ShadowWard$Block", 35, "ShadowWard$Block", "found", "Z"),
  ("ShadowWard$LostSearch", 76, "ShadowWard$Block", "found", "Z"),
  ("ShadowWard$LostSearch", 65, "ShadowWard$Block", "ledToByLost", "Z"),
  ("ShadowWardModel", 85, "ShadowWardModel", "thrown", "I"),
  ("ShadowWardModel", 78, "ShadowWardModel", "n", "I"),
  ("ShadowWardModel", 82, "ShadowWardModel", "q", "I"),
  ("ShadowWardModel", 7, "ShadowWardModel", "memory", "[B"),
  ("ShadowWardModel", 13, "ShadowWardModel", "shadows", "[I"),
  ("ShadowWardModel", 17, "ShadowWardModel", "globalAt", "[I"),
  ("ShadowWardModel", 20, "ShadowWardModel", "globalSize", "[I"),
  ("ShadowWardModel", 92, "ShadowWardModel", "globals", "I"),
  ("ShadowWardModel", 23, "ShadowWardModel", "frameAt", "[I"),
  ("ShadowWardModel", 26, "ShadowWardModel", "frameEnd", "[I"),
  ("ShadowWardModel", 29, "ShadowWardModel", "variables", "[I"),
  ("ShadowWardModel", 32, "ShadowWardModel", "varAt", "[I"),
  ("ShadowWardModel", 35, "ShadowWardModel", "varSize", "[I"),
  ("ShadowWardModel", 38, "ShadowWardModel", "outOfScope", "[Z"),
  ("ShadowWardModel", 102, "ShadowWardModel", "frames", "I"),
  ("ShadowWardModel", 42, "ShadowWardModel", "blockAt", "[I"),
  ("ShadowWardModel", 45, "ShadowWardModel", "blockSize", "[I"),
  ("ShadowWardModel", 48, "ShadowWardModel", "blockKind", "[I"),
  ("ShadowWardModel", 51, "ShadowWardModel", "blockState", "[I"),
  ("ShadowWardModel", 54, "ShadowWardModel", "chunkAt", "[I"),
  ("ShadowWardModel", 57, "ShadowWardModel", "chunkSize", "[I"),
  ("ShadowWardModel", 60, "ShadowWardModel", "givenAt", "[I"),
  ("ShadowWardModel", 63, "ShadowWardModel", "freedAt", "[I"),
  ("ShadowWardModel", 117, "ShadowWardModel", "blocks", "I"),
  ("ShadowWardModel", 66, "ShadowWardModel", "quarantine", "[I"),
  ("ShadowWardModel", 123, "ShadowWardModel", "held", "I"),
  ("ShadowWardModel", 69, "ShadowWardModel", "reports", "[I"),
  ("ShadowWardModel", 157, "ShadowWardModel", "reportCount", "I"),
  ("ShadowWardModel", 72, "ShadowWardModel", "found", "[Z"),
  ("ShadowWardModel", 75, "ShadowWardModel", "moved", "[B")]
def zML : List (String × Nat × MethodName) := [("ShadowWardLaw", 94, ⟨"ShadowWard", "<init>", "(II)V"⟩),
  ("ShadowWard", 1, ⟨"java/lang/Object", "<init>", "()V"⟩),
  ("ShadowWard", 9, ⟨"ShadowWard$Memory", "<init>", "(I)V"⟩),
  ("ShadowWard$Memory", 3, ⟨"java/lang/Object", "<init>", "()V"⟩),
  ("ShadowWard$Memory", 28, ⟨"ShadowWard$Memory", "paint", "(III)V"⟩),
  ("ShadowWard$Memory", 36, ⟨"java/lang/Math", "min", "(II)I"⟩),
  ("ShadowWard$Memory", 41, ⟨"java/lang/Math", "max", "(II)I"⟩),
  ("ShadowWard", 20, ⟨"ShadowWard$Globals", "<init>", "(LShadowWard$Memory;)V"⟩),
  ("ShadowWard$Globals", 3, ⟨"java/lang/Object", "<init>", "()V"⟩),
  ("ShadowWard$Globals", 11, ⟨"java/util/ArrayList", "<init>", "()V"⟩),
  ("java/util/ArrayList", 1, ⟨"java/util/AbstractList", "<init>", "()V"⟩),
  ("java/util/AbstractList", 1, ⟨"java/util/AbstractCollection", "<init>", "()V"⟩),
  ("java/util/AbstractCollection", 1, ⟨"java/lang/Object", "<init>", "()V"⟩),
  ("ShadowWard", 29, ⟨"ShadowWard$Frames", "<init>", "(LShadowWard$Memory;)V"⟩),
  ("ShadowWard$Frames", 3, ⟨"java/lang/Object", "<init>", "()V"⟩),
  ("ShadowWard$Frames", 11, ⟨"java/util/ArrayList", "<init>", "()V"⟩),
  ("ShadowWard", 36, ⟨"ShadowWard$Heap", "<init>", "(LShadowWard$Memory;I)V"⟩),
  ("ShadowWard$Heap", 3, ⟨"java/lang/Object", "<init>", "()V"⟩),
  ("ShadowWard$Heap", 11, ⟨"java/util/ArrayList", "<init>", "()V"⟩),
  ("ShadowWard", 45, ⟨"ShadowWard$LostSearch", "<init>", "(LShadowWard$Memory;LShadowWard$Globals;LShadowWard$Frames;LShadowWard$Heap;)V"⟩),
  ("ShadowWard$LostSearch", 3, ⟨"java/lang/Object", "<init>", "()V"⟩),
  ("ShadowWard$LostSearch", 11, ⟨"java/util/ArrayList", "<init>", "()V"⟩),
  ("ShadowWard", 54, ⟨"java/util/ArrayList", "<init>", "()V"⟩),
  ("ShadowWardLaw", 149, ⟨"ShadowWard", "length", "(I)I"⟩),
  ("ShadowWard", 141, ⟨"ShadowWard", "permits", "(III)Z"⟩),
  ("ShadowWard", 267, ⟨"ShadowWard$Memory", "firstWrong", "(II)I"⟩),
  ("ShadowWard$Memory", 59, ⟨"ShadowWard$Memory", "isGood", "(I)Z"⟩),
  ("ShadowWard$Memory", 52, ⟨"ShadowWard$Memory", "isAddress", "(I)Z"⟩),
  ("ShadowWard$Memory", 56, ⟨"ShadowWard$Memory", "shadowOf", "(I)I"⟩),
  ("ShadowWard$Memory", 48, ⟨"ShadowWard$Memory", "goodBytes", "(I)I"⟩),
  ("ShadowWard", 270, ⟨"ShadowWard$Memory", "kindOfWrong", "(I)I"⟩),
  ("ShadowWard", 160, ⟨"ShadowWard", "tell", "(IIII)V"⟩),
  ("ShadowWard", 187, ⟨"java/util/ArrayList", "size", "()I"⟩),
  ("ShadowWard", 273, ⟨"ShadowWard$Memory", "isAddress", "(I)Z"⟩),
  ("ShadowWard", 279, ⟨"ShadowWard$Globals", "nearestTo", "(I)LShadowWard$Region;"⟩),
  ("ShadowWard$Globals", 34, ⟨"java/util/ArrayList", "size", "()I"⟩),
  ("ShadowWard$Globals", 48, ⟨"java/util/ArrayList", "get", "(I)Ljava/lang/Object;"⟩),
  ("java/util/ArrayList", 118, ⟨"java/util/Objects", "checkIndex", "(II)I"⟩),
  ("java/util/Objects", 105, ⟨"jdk/internal/util/Preconditions", "checkIndex", "(IILjava/util/function/BiFunction;)I"⟩),
  ("java/util/ArrayList", 123, ⟨"java/util/ArrayList", "elementData", "(I)Ljava/lang/Object;"⟩),
  ("ShadowWard", 295, ⟨"ShadowWard$Region", "farFrom", "(I)I"⟩),
  ("ShadowWard", 175, ⟨"java/lang/Integer", "compare", "(II)I"⟩),
  ("ShadowWard", 286, ⟨"ShadowWard$Frames", "nearestTo", "(I)LShadowWard$Region;"⟩),
  ("ShadowWard$Frames", 34, ⟨"ShadowWard$Frames", "count", "()I"⟩),
  ("ShadowWard$Frames", 22, ⟨"java/util/ArrayList", "size", "()I"⟩),
  ("ShadowWard$Frames", 43, ⟨"java/util/ArrayList", "get", "(I)Ljava/lang/Object;"⟩),
  ("ShadowWard", 287, ⟨"ShadowWard$Heap", "nearestTo", "(I)LShadowWard$Region;"⟩),
  ("ShadowWard$Heap", 52, ⟨"java/util/ArrayList", "size", "()I"⟩),
  ("ShadowWard$Heap", 131, ⟨"java/util/ArrayList", "get", "(I)Ljava/lang/Object;"⟩),
  ("ShadowWard", 288, ⟨"ShadowWard$Report", "<init>", "(IIIILShadowWard$Region;)V"⟩),
  ("ShadowWard$Report", 3, ⟨"java/lang/Object", "<init>", "()V"⟩),
  ("ShadowWard$Report", 46, ⟨"ShadowWard$Region", "farFrom", "(I)I"⟩),
  ("ShadowWard$Report", 50, ⟨"ShadowWard$Region", "sideOf", "(I)I"⟩),
  ("ShadowWard", 291, ⟨"java/util/ArrayList", "add", "(Ljava/lang/Object;)Z"⟩),
  ("java/util/ArrayList", 131, ⟨"java/util/ArrayList", "add", "(Ljava/lang/Object;[Ljava/lang/Object;I)V"⟩),
  ("java/util/ArrayList", 129, ⟨"java/util/ArrayList", "grow", "()[Ljava/lang/Object;"⟩),
  ("java/util/ArrayList", 69, ⟨"java/util/ArrayList", "grow", "(I)[Ljava/lang/Object;"⟩),
  ("java/util/ArrayList", 73, ⟨"jdk/internal/util/ArraysSupport", "newLength", "(III)I"⟩),
  ("jdk/internal/util/ArraysSupport", 194, ⟨"java/lang/Math", "max", "(II)I"⟩),
  ("jdk/internal/util/ArraysSupport", 201, ⟨"jdk/internal/util/ArraysSupport", "hugeLength", "(II)I"⟩),
  ("java/util/ArrayList", 66, ⟨"java/util/Arrays", "copyOf", "([Ljava/lang/Object;I)[Ljava/lang/Object;"⟩),
  ("java/util/Arrays", 86, ⟨"java/lang/Object", "getClass", "()Ljava/lang/Class;"⟩),
  ("java/util/Arrays", 300, ⟨"java/util/Arrays", "copyOf", "([Ljava/lang/Object;ILjava/lang/Class;)[Ljava/lang/Object;"⟩),
  ("java/util/Arrays", 304, ⟨"java/lang/Math", "min", "(II)I"⟩),
  ("java/util/Arrays", 150, ⟨"java/lang/System", "arraycopy", "(Ljava/lang/Object;ILjava/lang/Object;II)V"⟩),
  ("java/util/ArrayList", 79, ⟨"java/lang/Math", "max", "(II)I"⟩),
  ("ShadowWard", 165, ⟨"ShadowWard$Memory", "byteAt", "(I)I"⟩),
  ("ShadowWardLaw", 153, ⟨"ShadowWard", "text", "(II)I"⟩),
  ("ShadowWard", 168, ⟨"ShadowWard", "length", "(I)I"⟩),
  ("ShadowWard", 171, ⟨"ShadowWard", "copy", "(IIIZ)Z"⟩),
  ("ShadowWard", 106, ⟨"ShadowWard", "isCount", "(I)Z"⟩),
  ("ShadowWard", 59, ⟨"ShadowWard", "demand", "(Z)V"⟩),
  ("java/lang/Throwable", 1, ⟨"java/lang/Object", "<init>", "()V"⟩),
  ("java/lang/Throwable", 27, ⟨"java/lang/Throwable", "fillInStackTrace", "()Ljava/lang/Throwable;"⟩),
  ("java/lang/Throwable", 202, ⟨"java/lang/Throwable", "fillInStackTrace", "(I)Ljava/lang/Throwable;"⟩),
  ("ShadowWard", 244, ⟨"java/lang/IllegalArgumentException", "<init>", "(Ljava/lang/String;)V"⟩),
  ("java/lang/IllegalArgumentException", 7, ⟨"java/lang/RuntimeException", "<init>", "(Ljava/lang/String;)V"⟩),
  ("java/lang/RuntimeException", 7, ⟨"java/lang/Exception", "<init>", "(Ljava/lang/String;)V"⟩),
  ("java/lang/Exception", 7, ⟨"java/lang/Throwable", "<init>", "(Ljava/lang/String;)V"⟩),
  ("ShadowWard", 156, ⟨"java/lang/Math", "abs", "(J)J"⟩),
  ("ShadowWard", 137, ⟨"ShadowWard$Memory", "moveBytes", "(III)V"⟩),
  ("ShadowWard$Memory", 44, ⟨"ShadowWard$Memory", "holds", "(II)Z"⟩),
  ("ShadowWard$Memory", 65, ⟨"java/lang/System", "arraycopy", "(Ljava/lang/Object;ILjava/lang/Object;II)V"⟩),
  ("ShadowWardLaw", 181, ⟨"ShadowWard", "lost", "(IZ)I"⟩),
  ("ShadowWard", 217, ⟨"ShadowWard$LostSearch", "firstFrom", "(IZ)I"⟩),
  ("ShadowWard$LostSearch", 34, ⟨"ShadowWard$LostSearch", "markFound", "()V"⟩),
  ("ShadowWard$LostSearch", 73, ⟨"java/util/ArrayList", "clear", "()V"⟩),
  ("ShadowWard$LostSearch", 51, ⟨"java/util/ArrayList", "size", "()I"⟩),
  ("ShadowWard$LostSearch", 55, ⟨"java/util/ArrayList", "get", "(I)Ljava/lang/Object;"⟩),
  ("ShadowWard$LostSearch", 85, ⟨"ShadowWard$LostSearch", "findFrom", "(LShadowWard$Region;)V"⟩),
  ("ShadowWard$LostSearch", 112, ⟨"ShadowWard$LostSearch", "ledToFrom", "(I)LShadowWard$Block;"⟩),
  ("ShadowWard$LostSearch", 126, ⟨"ShadowWard$Memory", "number", "(II)J"⟩),
  ("ShadowWard$Memory", 62, ⟨"ShadowWard$Memory", "byteAt", "(I)I"⟩),
  ("ShadowWard$LostSearch", 132, ⟨"ShadowWard$Heap", "liveBlockWith", "(I)LShadowWard$Block;"⟩),
  ("ShadowWard$Heap", 123, ⟨"ShadowWard$Heap", "chunkOwner", "(I)LShadowWard$Block;"⟩),
  ("ShadowWard$Heap", 127, ⟨"ShadowWard$Block", "hasByte", "(I)Z"⟩),
  ("ShadowWard$LostSearch", 116, ⟨"java/util/ArrayList", "add", "(Ljava/lang/Object;)Z"⟩),
  ("ShadowWard$LostSearch", 89, ⟨"ShadowWard$Frames", "count", "()I"⟩),
  ("ShadowWard$LostSearch", 37, ⟨"ShadowWard$LostSearch", "markLedToByLost", "()V"⟩),
  ("ShadowWard$LostSearch", 61, ⟨"ShadowWard$Block", "isLost", "()Z"⟩),
  ("ShadowWard$LostSearch", 120, ⟨"ShadowWard$LostSearch", "markLedToFrom", "(LShadowWard$Block;)V"⟩),
  ("ShadowWard$LostSearch", 40, ⟨"java/lang/Math", "max", "(II)I"⟩),
  ("ShadowWardLaw", 88, ⟨"ShadowWardLaw", "cell", "([II)I"⟩),
  ("ShadowWardLaw", 100, ⟨"ShadowWardLaw", "global", "(LShadowWard;I[J)I"⟩),
  ("ShadowWardLaw", 7, ⟨"ShadowWard", "global", "(I)I"⟩),
  ("ShadowWard", 63, ⟨"ShadowWard$Globals", "place", "(I)I"⟩),
  ("ShadowWard$Globals", 22, ⟨"ShadowWard$Globals", "nextAddress", "()I"⟩),
  ("ShadowWard$Globals", 37, ⟨"ShadowWard$Region", "<init>", "(IIIII)V"⟩),
  ("ShadowWard$Region", 1, ⟨"java/lang/Object", "<init>", "()V"⟩),
  ("ShadowWard$Globals", 40, ⟨"java/util/ArrayList", "add", "(Ljava/lang/Object;)Z"⟩),
  ("ShadowWard$Globals", 44, ⟨"ShadowWard$Memory", "open", "(II)V"⟩),
  ("ShadowWardLaw", 107, ⟨"ShadowWardLaw", "enter", "(LShadowWard;IIII[J)I"⟩),
  ("ShadowWardLaw", 15, ⟨"ShadowWard", "enter", "(IIII)I"⟩),
  ("ShadowWard", 67, ⟨"ShadowWard", "isVariableSize", "(I)Z"⟩),
  ("ShadowWard", 71, ⟨"ShadowWard$Frames", "push", "(IIII)I"⟩),
  ("ShadowWard$Frames", 30, ⟨"ShadowWard$Frames", "spanOf", "(I)I"⟩),
  ("ShadowWard$Frames", 55, ⟨"ShadowWard$Frame", "<init>", "(II)V"⟩),
  ("ShadowWard$Frame", 1, ⟨"java/lang/Object", "<init>", "()V"⟩),
  ("ShadowWard$Frame", 9, ⟨"java/util/ArrayList", "<init>", "()V"⟩),
  ("ShadowWard$Frames", 58, ⟨"ShadowWard$Frames", "addVariable", "(LShadowWard$Frame;II)I"⟩),
  ("ShadowWard$Frames", 75, ⟨"ShadowWard$Variable", "<init>", "(III)V"⟩),
  ("ShadowWard$Variable", 3, ⟨"ShadowWard$Region", "<init>", "(IIIII)V"⟩),
  ("ShadowWard$Frames", 62, ⟨"java/util/ArrayList", "add", "(Ljava/lang/Object;)Z"⟩),
  ("ShadowWard$Frames", 66, ⟨"ShadowWard$Frames", "paintFrame", "(LShadowWard$Frame;)V"⟩),
  ("ShadowWard$Frames", 78, ⟨"ShadowWard$Memory", "paint", "(III)V"⟩),
  ("ShadowWard$Frames", 84, ⟨"ShadowWard$Memory", "open", "(II)V"⟩),
  ("ShadowWardLaw", 111, ⟨"ShadowWardLaw", "leave", "(LShadowWard;[J)I"⟩),
  ("ShadowWardLaw", 19, ⟨"ShadowWard", "leave", "()I"⟩),
  ("ShadowWard", 75, ⟨"ShadowWard$Frames", "count", "()I"⟩),
  ("ShadowWard", 83, ⟨"java/lang/IllegalStateException", "<init>", "(Ljava/lang/String;)V"⟩),
  ("java/lang/IllegalStateException", 7, ⟨"java/lang/RuntimeException", "<init>", "(Ljava/lang/String;)V"⟩),
  ("ShadowWard", 86, ⟨"ShadowWard$Frames", "pop", "()V"⟩),
  ("ShadowWard$Frames", 87, ⟨"java/util/ArrayList", "remove", "(I)Ljava/lang/Object;"⟩),
  ("java/util/ArrayList", 144, ⟨"java/util/ArrayList", "fastRemove", "([Ljava/lang/Object;I)V"⟩),
  ("java/util/ArrayList", 112, ⟨"java/lang/System", "arraycopy", "(Ljava/lang/Object;ILjava/lang/Object;II)V"⟩),
  ("ShadowWardLaw", 115, ⟨"ShadowWardLaw", "scope", "(LShadowWard;IIZ[J)I"⟩),
  ("ShadowWardLaw", 25, ⟨"ShadowWard", "scope", "(IIZ)Z"⟩),
  ("ShadowWard", 89, ⟨"ShadowWard", "variableOf", "(II)LShadowWard$Variable;"⟩),
  ("ShadowWard", 189, ⟨"ShadowWard", "demandIndex", "(II)V"⟩),
  ("ShadowWard", 249, ⟨"java/lang/IndexOutOfBoundsException", "<init>", "(Ljava/lang/String;)V"⟩),
  ("java/lang/IndexOutOfBoundsException", 7, ⟨"java/lang/RuntimeException", "<init>", "(Ljava/lang/String;)V"⟩),
  ("ShadowWard", 193, ⟨"java/util/ArrayList", "get", "(I)Ljava/lang/Object;"⟩),
  ("ShadowWard", 93, ⟨"ShadowWard$Frames", "setScope", "(LShadowWard$Variable;Z)Z"⟩),
  ("ShadowWardLaw", 119, ⟨"ShadowWardLaw", "variable", "(LShadowWard;II[J)I"⟩),
  ("ShadowWardLaw", 31, ⟨"ShadowWard", "variable", "(II)I"⟩),
  ("ShadowWardLaw", 123, ⟨"ShadowWardLaw", "allocate", "(LShadowWard;III[J)I"⟩),
  ("ShadowWardLaw", 35, ⟨"ShadowWard", "allocate", "(III)I"⟩),
  ("ShadowWard", 103, ⟨"ShadowWard", "isBlockKind", "(I)Z"⟩),
  ("ShadowWard", 109, ⟨"ShadowWard$Heap", "give", "(III)LShadowWard$Block;"⟩),
  ("ShadowWard$Heap", 55, ⟨"ShadowWard$Block", "chunkBytesFor", "(I)I"⟩),
  ("ShadowWard$Block", 3, ⟨"ShadowWard$Block", "redzone", "(I)I"⟩),
  ("ShadowWard$Heap", 59, ⟨"ShadowWard$Heap", "unitWithRoom", "(I)I"⟩),
  ("ShadowWard$Heap", 93, ⟨"ShadowWard$Heap", "firstFreeRun", "(I)I"⟩),
  ("ShadowWard$Heap", 96, ⟨"ShadowWard$Heap", "releaseOldest", "()V"⟩),
  ("ShadowWard$Heap", 115, ⟨"java/util/ArrayList", "isEmpty", "()Z"⟩),
  ("ShadowWard$Heap", 119, ⟨"java/util/ArrayList", "remove", "(I)Ljava/lang/Object;"⟩),
  ("ShadowWard$Heap", 86, ⟨"ShadowWard$Memory", "paint", "(III)V"⟩),
  ("ShadowWard$Heap", 69, ⟨"ShadowWard$Heap", "setOwner", "(LShadowWard$Block;LShadowWard$Block;)V"⟩),
  ("ShadowWard$Heap", 99, ⟨"java/lang/Math", "max", "(II)I"⟩),
  ("ShadowWard$Heap", 105, ⟨"java/lang/Math", "min", "(II)I"⟩),
  ("ShadowWard$Heap", 62, ⟨"ShadowWard$Block", "<init>", "(IIIII)V"⟩),
  ("ShadowWard$Block", 9, ⟨"ShadowWard$Region", "<init>", "(IIIII)V"⟩),
  ("ShadowWard$Block", 25, ⟨"ShadowWard$Block", "chunkBytesFor", "(I)I"⟩),
  ("ShadowWard$Heap", 65, ⟨"java/util/ArrayList", "add", "(Ljava/lang/Object;)Z"⟩),
  ("ShadowWard$Heap", 79, ⟨"ShadowWard$Memory", "setBytes", "(III)V"⟩),
  ("ShadowWard$Heap", 89, ⟨"ShadowWard$Memory", "open", "(II)V"⟩),
  ("ShadowWardLaw", 127, ⟨"ShadowWardLaw", "free", "(LShadowWard;III[J)I"⟩),
  ("ShadowWardLaw", 39, ⟨"ShadowWard", "free", "(III)Z"⟩),
  ("ShadowWard", 116, ⟨"ShadowWard", "blockToFree", "(II)LShadowWard$Block;"⟩),
  ("ShadowWard", 257, ⟨"ShadowWard$Heap", "blockAt", "(I)LShadowWard$Block;"⟩),
  ("ShadowWard", 120, ⟨"ShadowWard$Heap", "takeBack", "(LShadowWard$Block;I)V"⟩),
  ("ShadowWardLaw", 130, ⟨"ShadowWardLaw", "resize", "(LShadowWard;III[J)I"⟩),
  ("ShadowWardLaw", 43, ⟨"ShadowWard", "resize", "(III)I"⟩),
  ("ShadowWard", 124, ⟨"ShadowWard", "allocate", "(III)I"⟩),
  ("ShadowWard", 131, ⟨"java/lang/Math", "min", "(II)I"⟩),
  ("ShadowWardLaw", 133, ⟨"ShadowWardLaw", "load", "(LShadowWard;II[J)I"⟩),
  ("ShadowWardLaw", 46, ⟨"ShadowWard", "load", "(II)J"⟩),
  ("ShadowWard", 145, ⟨"ShadowWard$Memory", "number", "(II)J"⟩),
  ("ShadowWardLaw", 138, ⟨"ShadowWardLaw", "store", "(LShadowWard;IIJ[J)I"⟩),
  ("ShadowWardLaw", 50, ⟨"ShadowWard", "store", "(IIJ)Z"⟩),
  ("ShadowWard", 149, ⟨"ShadowWard$Memory", "setNumber", "(IIJ)V"⟩),
  ("ShadowWardLaw", 142, ⟨"ShadowWardLaw", "fill", "(LShadowWard;III[J)I"⟩),
  ("ShadowWardLaw", 54, ⟨"ShadowWard", "fill", "(III)Z"⟩),
  ("ShadowWard", 153, ⟨"ShadowWard$Memory", "setBytes", "(III)V"⟩),
  ("ShadowWardLaw", 145, ⟨"ShadowWardLaw", "copy", "(LShadowWard;IIIZ[J)I"⟩),
  ("ShadowWardLaw", 57, ⟨"ShadowWard", "copy", "(IIIZ)Z"⟩),
  ("ShadowWardLaw", 157, ⟨"ShadowWardLaw", "compare", "(LShadowWard;III[J)I"⟩),
  ("ShadowWardLaw", 61, ⟨"ShadowWard", "compare", "(III)I"⟩),
  ("ShadowWardLaw", 160, ⟨"ShadowWardLaw", "lock", "(LShadowWard;II[J)I"⟩),
  ("ShadowWardLaw", 64, ⟨"ShadowWard", "lock", "(II)I"⟩),
  ("ShadowWard", 180, ⟨"ShadowWard$Memory", "holds", "(II)Z"⟩),
  ("ShadowWard", 184, ⟨"ShadowWard$Memory", "exchangeWhole", "(IIII)I"⟩),
  ("ShadowWardLaw", 163, ⟨"ShadowWardLaw", "unlock", "(LShadowWard;II[J)I"⟩),
  ("ShadowWardLaw", 67, ⟨"ShadowWard", "unlock", "(II)I"⟩),
  ("ShadowWardLaw", 166, ⟨"ShadowWardLaw", "report", "(LShadowWard;II[J)I"⟩),
  ("ShadowWardLaw", 70, ⟨"ShadowWard", "report", "(II)I"⟩),
  ("ShadowWard", 199, ⟨"ShadowWard$Report", "answer", "(I)I"⟩),
  ("ShadowWardLaw", 169, ⟨"ShadowWardLaw", "block", "(LShadowWard;II[J)I"⟩),
  ("ShadowWardLaw", 73, ⟨"ShadowWard", "block", "(II)I"⟩),
  ("ShadowWard", 205, ⟨"ShadowWard$Block", "answer", "(I)I"⟩),
  ("ShadowWardLaw", 172, ⟨"ShadowWardLaw", "shadow", "(LShadowWard;I[J)I"⟩),
  ("ShadowWardLaw", 76, ⟨"ShadowWard", "shadow", "(I)I"⟩),
  ("ShadowWard", 206, ⟨"ShadowWard$Memory", "granules", "()I"⟩),
  ("ShadowWard", 209, ⟨"ShadowWard$Memory", "shadowOf", "(I)I"⟩),
  ("ShadowWardLaw", 175, ⟨"ShadowWardLaw", "peek", "(LShadowWard;I[J)I"⟩),
  ("ShadowWardLaw", 79, ⟨"ShadowWard", "peek", "(I)I"⟩),
  ("ShadowWardLaw", 178, ⟨"ShadowWardLaw", "held", "(LShadowWard;I[J)I"⟩),
  ("ShadowWardLaw", 82, ⟨"ShadowWard", "held", "(I)I"⟩),
  ("ShadowWardLaw", 186, ⟨"ShadowWardLaw", "told", "(LShadowWard;I[J)I"⟩),
  ("ShadowWardLaw", 85, ⟨"ShadowWard", "told", "(I)I"⟩),
  ("ShadowWard", 236, ⟨"ShadowWard$Memory", "goodAddresses", "()I"⟩),
  ("ShadowWard", 239, ⟨"ShadowWard$LostSearch", "count", "()I"⟩),
  ("ShadowWardLaw", 99, ⟨"ShadowWardModel", "<init>", "(II)V"⟩),
  ("ShadowWardModel", 1, ⟨"java/lang/Object", "<init>", "()V"⟩),
  ("ShadowWardLaw", 104, ⟨"ShadowWardModel", "thrown", "()I"⟩),
  ("ShadowWardLaw", 103, ⟨"ShadowWardModel", "global", "(I)I"⟩),
  ("ShadowWardModel", 88, ⟨"ShadowWardModel", "refuses", "(I)Z"⟩),
  ("ShadowWardModel", 95, ⟨"ShadowWardModel", "opens", "(II)V"⟩),
  ("ShadowWardLaw", 110, ⟨"ShadowWardModel", "enter", "(IIII)I"⟩),
  ("ShadowWardModel", 99, ⟨"ShadowWardModel", "isSize", "(I)Z"⟩),
  ("ShadowWardModel", 105, ⟨"ShadowWardModel", "padded", "(I)I"⟩),
  ("ShadowWardModel", 109, ⟨"ShadowWardModel", "paint", "(III)V"⟩),
  ("ShadowWardLaw", 114, ⟨"ShadowWardModel", "leave", "()I"⟩),
  ("ShadowWardLaw", 118, ⟨"ShadowWardModel", "scope", "(IIZ)Z"⟩),
  ("ShadowWardModel", 113, ⟨"ShadowWardModel", "noVariable", "(II)Z"⟩),
  ("ShadowWardLaw", 122, ⟨"ShadowWardModel", "variable", "(II)I"⟩),
  ("ShadowWardLaw", 126, ⟨"ShadowWardModel", "allocate", "(III)I"⟩),
  ("ShadowWardModel", 135, ⟨"ShadowWardModel", "given", "(III)I"⟩),
  ("ShadowWardModel", 126, ⟨"ShadowWardModel", "redzone", "(I)I"⟩),
  ("ShadowWardModel", 129, ⟨"ShadowWardModel", "placeFor", "(I)I"⟩),
  ("ShadowWardModel", 120, ⟨"ShadowWardModel", "isFree", "(II)Z"⟩),
  ("ShadowWardModel", 132, ⟨"ShadowWardModel", "oldestLeaves", "()V"⟩),
  ("ShadowWardLaw", 129, ⟨"ShadowWardModel", "free", "(III)Z"⟩),
  ("ShadowWardModel", 151, ⟨"ShadowWardModel", "mayGo", "(II)I"⟩),
  ("ShadowWardModel", 143, ⟨"ShadowWardModel", "blockIn", "(II)I"⟩),
  ("ShadowWardModel", 147, ⟨"ShadowWardModel", "tells", "(IJIZ)V"⟩),
  ("ShadowWardModel", 160, ⟨"ShadowWardModel", "nearer", "(IJIIII)V"⟩),
  ("ShadowWardModel", 164, ⟨"ShadowWardModel", "far", "(JII)J"⟩),
  ("ShadowWardModel", 168, ⟨"ShadowWardModel", "regionAt", "(II)I"⟩),
  ("ShadowWardModel", 154, ⟨"ShadowWardModel", "goes", "(II)V"⟩),
  ("ShadowWardModel", 139, ⟨"ShadowWardModel", "heldBytes", "()I"⟩),
  ("ShadowWardLaw", 132, ⟨"ShadowWardModel", "resize", "(III)I"⟩),
  ("ShadowWardLaw", 135, ⟨"ShadowWardModel", "load", "(II)J"⟩),
  ("ShadowWardModel", 177, ⟨"ShadowWardModel", "right", "(JIIIZ)Z"⟩),
  ("ShadowWardModel", 173, ⟨"ShadowWardModel", "wrong", "(J)I"⟩),
  ("ShadowWardLaw", 141, ⟨"ShadowWardModel", "store", "(IIJ)Z"⟩),
  ("ShadowWardLaw", 144, ⟨"ShadowWardModel", "fill", "(III)Z"⟩),
  ("ShadowWardModel", 181, ⟨"ShadowWardModel", "noAmount", "(I)Z"⟩),
  ("ShadowWardLaw", 148, ⟨"ShadowWardModel", "copy", "(IIIZ)Z"⟩),
  ("ShadowWardModel", 184, ⟨"ShadowWardModel", "copies", "(IIIZ)Z"⟩),
  ("ShadowWardLaw", 152, ⟨"ShadowWardModel", "length", "(I)I"⟩),
  ("ShadowWardModel", 188, ⟨"ShadowWardModel", "lengthOf", "(I)I"⟩),
  ("ShadowWardLaw", 156, ⟨"ShadowWardModel", "text", "(II)I"⟩),
  ("ShadowWardLaw", 159, ⟨"ShadowWardModel", "compare", "(III)I"⟩),
  ("ShadowWardLaw", 162, ⟨"ShadowWardModel", "lock", "(II)I"⟩),
  ("ShadowWardModel", 191, ⟨"ShadowWardModel", "change", "(IIII)I"⟩),
  ("ShadowWardLaw", 165, ⟨"ShadowWardModel", "unlock", "(II)I"⟩),
  ("ShadowWardLaw", 168, ⟨"ShadowWardModel", "report", "(II)I"⟩),
  ("ShadowWardLaw", 171, ⟨"ShadowWardModel", "block", "(II)I"⟩),
  ("ShadowWardLaw", 174, ⟨"ShadowWardModel", "shadow", "(I)I"⟩),
  ("ShadowWardLaw", 177, ⟨"ShadowWardModel", "peek", "(I)I"⟩),
  ("ShadowWardLaw", 180, ⟨"ShadowWardModel", "held", "(I)I"⟩),
  ("ShadowWardLaw", 185, ⟨"ShadowWardModel", "lost", "(IZ)I"⟩),
  ("ShadowWardModel", 211, ⟨"ShadowWardModel", "walk", "()V"⟩),
  ("ShadowWardModel", 205, ⟨"ShadowWardModel", "isRooted", "(I)Z"⟩),
  ("ShadowWardModel", 201, ⟨"ShadowWardModel", "leads", "(III)Z"⟩),
  ("ShadowWardModel", 197, ⟨"ShadowWardModel", "word", "(I)J"⟩),
  ("ShadowWardModel", 208, ⟨"ShadowWardModel", "isLost", "(I)Z"⟩),
  ("ShadowWardModel", 214, ⟨"ShadowWardModel", "isAlone", "(I)Z"⟩),
  ("ShadowWardLaw", 188, ⟨"ShadowWardModel", "told", "(I)I"⟩),
  ("ShadowWardModel", 217, ⟨"ShadowWardModel", "good", "()I"⟩)]
def zMN : List (String × Nat × MethodName × String) := [("ShadowWard$Memory", 32, ⟨"ShadowWard", "roundUp", "(II)I"⟩, "ShadowWard"),
  ("ShadowWard$Globals", 59, ⟨"ShadowWard", "nearer", "(LShadowWard$Region;LShadowWard$Region;I)LShadowWard$Region;"⟩, "ShadowWard"),
  ("ShadowWard$Frames", 99, ⟨"ShadowWard", "nearer", "(LShadowWard$Region;LShadowWard$Region;I)LShadowWard$Region;"⟩, "ShadowWard"),
  ("ShadowWard$Heap", 134, ⟨"ShadowWard", "nearer", "(LShadowWard$Region;LShadowWard$Region;I)LShadowWard$Region;"⟩, "ShadowWard"),
  ("ShadowWard$Globals", 55, ⟨"ShadowWard", "roundUp", "(II)I"⟩, "ShadowWard"),
  ("ShadowWard$Frames", 26, ⟨"ShadowWard", "roundUp", "(II)I"⟩, "ShadowWard"),
  ("ShadowWard$Block", 31, ⟨"ShadowWard", "roundUp", "(II)I"⟩, "ShadowWard")]
def zKL : List (String × Nat × String) := [("ShadowWardLaw", 8, "ShadowWard"),
  ("ShadowWard", 7, "ShadowWard$Memory"),
  ("ShadowWard", 18, "ShadowWard$Globals"),
  ("ShadowWard$Globals", 9, "java/util/ArrayList"),
  ("ShadowWard", 27, "ShadowWard$Frames"),
  ("ShadowWard$Frames", 9, "java/util/ArrayList"),
  ("ShadowWard", 34, "ShadowWard$Heap"),
  ("ShadowWard$Heap", 9, "java/util/ArrayList"),
  ("ShadowWard$Heap", 46, "ShadowWard$Block"),
  ("ShadowWard", 43, "ShadowWard$LostSearch"),
  ("ShadowWard$LostSearch", 9, "java/util/ArrayList"),
  ("ShadowWard", 52, "java/util/ArrayList"),
  ("ShadowWard$Globals", 32, "ShadowWard$Region"),
  ("ShadowWard$Frames", 47, "ShadowWard$Frame"),
  ("ShadowWard$Frames", 97, "ShadowWard$Region"),
  ("ShadowWard", 197, "ShadowWard$Report"),
  ("java/util/Arrays", 110, "[Ljava/lang/Object;"),
  ("java/util/Arrays", 2, "java/lang/Object"),
  ("java/util/ArrayList", 7, "java/lang/Object"),
  ("ShadowWard", 240, "java/lang/IllegalArgumentException"),
  ("ShadowWard$LostSearch", 59, "ShadowWard$Block"),
  ("ShadowWard$LostSearch", 83, "ShadowWard$Region"),
  ("ShadowWard$LostSearch", 96, "ShadowWard$Frame"),
  ("ShadowWard$LostSearch", 101, "ShadowWard$Variable"),
  ("ShadowWardLaw", 13, "java/lang/IllegalArgumentException"),
  ("ShadowWard$Frame", 7, "java/util/ArrayList"),
  ("ShadowWard$Frames", 73, "ShadowWard$Variable"),
  ("ShadowWardLaw", 23, "java/lang/IllegalStateException"),
  ("ShadowWard", 79, "java/lang/IllegalStateException"),
  ("ShadowWardLaw", 29, "java/lang/IndexOutOfBoundsException"),
  ("ShadowWard", 245, "java/lang/IndexOutOfBoundsException"),
  ("ShadowWard", 252, "ShadowWard$Frame"),
  ("ShadowWard", 98, "ShadowWard$Variable"),
  ("ShadowWard", 114, "ShadowWard$Block"),
  ("ShadowWardLaw", 97, "ShadowWardModel")]
def zSF : List (String × String × String × String) := [("java/util/ArrayList", "java/util/AbstractList", "modCount", "I"),
  ("ShadowWard$Block", "ShadowWard$Region", "number", "I"),
  ("ShadowWard$Block", "ShadowWard$Region", "address", "I"),
  ("ShadowWard$Variable", "ShadowWard$Region", "address", "I"),
  ("ShadowWard$Block", "ShadowWard$Region", "size", "I"),
  ("ShadowWard$Variable", "ShadowWard$Region", "size", "I"),
  ("ShadowWard$Block", "ShadowWard$Region", "end", "I"),
  ("ShadowWard$Block", "ShadowWard$Region", "siteGiven", "I"),
  ("ShadowWard$Block", "ShadowWard$Region", "siteFreed", "I")]
def zisF : Jvm.Cond → Bool
  | .fieldLink _ _ _ _ _ => true
  | _ => false
def zisM : Jvm.Cond → Bool
  | .methodLink _ _ _ => true
  | _ => false
def zisN : Jvm.Cond → Bool
  | .methodLinkNest _ _ _ _ => true
  | _ => false
def zisK : Jvm.Cond → Bool
  | .classLink _ _ _ => true
  | _ => false
def zisS : Jvm.Cond → Bool
  | .sameField _ _ _ _ => true
  | _ => false
theorem zFR_eq : zFR.map (fun q => Jvm.Cond.fieldLink q.1 q.2.1 q.2.2.1 q.2.2.2.1 q.2.2.2.2) = tables_1.filter zisF := by decide +kernel
theorem zML_eq : zML.map (fun q => Jvm.Cond.methodLink q.1 q.2.1 q.2.2) = tables_1.filter zisM := by decide +kernel
theorem zMN_eq : zMN.map (fun q => Jvm.Cond.methodLinkNest q.1 q.2.1 q.2.2.1 q.2.2.2) = tables_1.filter zisN := by decide +kernel
theorem zKL_eq : zKL.map (fun q => Jvm.Cond.classLink q.1 q.2.1 q.2.2) = tables_1.filter zisK := by decide +kernel
theorem zSF_eq : zSF.map (fun q => Jvm.Cond.sameField q.1 q.2.1 q.2.2.1 q.2.2.2) = tables_1.filter zisS := by decide +kernel
theorem zmf {w : Jvm.Cond} {l : List Jvm.Cond} {p : Jvm.Cond → Bool} (h : w ∈ l.filter p) : w ∈ l := (List.mem_filter.mp h).1
theorem zpl {w : Jvm.Cond} {l ws : List Jvm.Cond} (ps : List Nat) (e : ws = ps.filterMap (fun i => l[i]?)) (h : w ∈ ws) : w ∈ l := by
  rw [e] at h
  obtain ⟨i, -, hi⟩ := List.mem_filterMap.mp h
  exact List.mem_of_getElem? hi
theorem z_in {w : Jvm.Cond} (h : w ∈ tables_1) : w ∈ lw_tbl := List.mem_append_right _ h
theorem zFR_in {t : Nat} {q : String × Nat × String × String × String} (h : zFR[t]? = some q) : Jvm.Cond.fieldLink q.1 q.2.1 q.2.2.1 q.2.2.2.1 q.2.2.2.2 ∈ lw_tbl := z_in (zmf (by rw [← zFR_eq]; exact List.mem_map.mpr ⟨q, List.mem_of_getElem? h, rfl⟩))
theorem zML_in {t : Nat} {q : String × Nat × MethodName} (h : zML[t]? = some q) : Jvm.Cond.methodLink q.1 q.2.1 q.2.2 ∈ lw_tbl := z_in (zmf (by rw [← zML_eq]; exact List.mem_map.mpr ⟨q, List.mem_of_getElem? h, rfl⟩))
theorem zMN_in {t : Nat} {q : String × Nat × MethodName × String} (h : zMN[t]? = some q) : Jvm.Cond.methodLinkNest q.1 q.2.1 q.2.2.1 q.2.2.2 ∈ lw_tbl := z_in (zmf (by rw [← zMN_eq]; exact List.mem_map.mpr ⟨q, List.mem_of_getElem? h, rfl⟩))
theorem zKL_in {t : Nat} {q : String × Nat × String} (h : zKL[t]? = some q) : Jvm.Cond.classLink q.1 q.2.1 q.2.2 ∈ lw_tbl := z_in (zmf (by rw [← zKL_eq]; exact List.mem_map.mpr ⟨q, List.mem_of_getElem? h, rfl⟩))
theorem zSF_in {q : String × String × String × String} (h : q ∈ zSF) : Jvm.Cond.sameField q.1 q.2.1 q.2.2.1 q.2.2.2 ∈ lw_tbl := z_in (zmf (by rw [← zSF_eq]; exact List.mem_map.mpr ⟨q, h, rfl⟩))
/-! the classes of the objects, by number: name, fields, how many, types -/
def zcl : Nat → String × u_T × Nat × (Nat → FieldType) := fun c => match c with
  | 0 => (RJx4a65c, TJx4a65c, 3, tyJx4a65c)
  | 1 => (RX0, TX0, 13, tyX0)
  | 2 => (RX1, TX1, 3, tyX1)
  | 3 => (RX2, TX2, 2, tyX2)
  | 4 => (RX3, TX3, 2, tyX3)
  | 5 => (RX4, TX4, 8, tyX4)
  | 6 => (RX5, TX5, 5, tyX5)
  | 7 => (RX6, TX6, 5, tyX6)
  | 8 => (RX7, TX7, 7, tyX7)
  | 9 => (RX8, TX8, 10, tyX8)
  | 10 => (RX9, TX9, 8, tyX9)
  | 11 => (RX10, TX10, 6, tyX10)
  | _ => (RX11, TX11, 30, tyX11)
def zclok (c : Nat) : Prop := vwCl[c]? = some ((zcl c).1, (zcl c).2.1, (zcl c).2.2.1) ∧ (∀ w ∈ u_ws (zcl c).1 (zcl c).2.1 (zcl c).2.2.1, w ∈ lw_tbl) ∧ (∀ k, k < (zcl c).2.2.1 → parseFieldDescriptor ((zcl c).2.1 k).2.2.1 = some ((zcl c).2.2.2 k)) ∧ ∀ a, a < (zcl c).2.2.1 → ∀ b, b < (zcl c).2.2.1 → a ≠ b → ((zcl c).2.1 a).2.1 ≠ ((zcl c).2.1 b).2.1
theorem zcl_0 : zclok 0 := ⟨rfl, fun w h => z_in (zpl [110, 106, 108] (show u_ws RJx4a65c TJx4a65c 3 = _ by decide +kernel) h), tyJx4a65c_ok, nmJx4a65c⟩
theorem zcl_1 : zclok 1 := ⟨rfl, fun w h => z_in (zpl [899, 900, 901, 902, 903, 904, 905, 887, 889, 891, 893, 895, 897] (show u_ws RX0 TX0 13 = _ by decide +kernel) h), tyX0_ok, nmX0⟩
theorem zcl_2 : zclok 2 := ⟨rfl, fun w h => z_in (zpl [704, 706, 708] (show u_ws RX1 TX1 3 = _ by decide +kernel) h), tyX1_ok, nmX1⟩
theorem zcl_3 : zclok 3 := ⟨rfl, fun w h => z_in (zpl [134, 136] (show u_ws RX2 TX2 2 = _ by decide +kernel) h), tyX2_ok, nmX2⟩
theorem zcl_4 : zclok 4 := ⟨rfl, fun w h => z_in (zpl [117, 119] (show u_ws RX3 TX3 2 = _ by decide +kernel) h), tyX3_ok, nmX3⟩
theorem zcl_5 : zclok 5 := ⟨rfl, fun w h => z_in (zpl [165, 167, 169, 171, 173, 175, 177, 179] (show u_ws RX4 TX4 8 = _ by decide +kernel) h), tyX4_ok, nmX4⟩
theorem zcl_6 : zclok 6 := ⟨rfl, fun w h => z_in (zpl [195, 197, 199, 201, 203] (show u_ws RX5 TX5 5 = _ by decide +kernel) h), tyX5_ok, nmX5⟩
theorem zcl_7 : zclok 7 := ⟨rfl, fun w h => z_in (zpl [69, 71, 73, 75, 77] (show u_ws RX6 TX6 5 = _ by decide +kernel) h), tyX6_ok, nmX6⟩
theorem zcl_8 : zclok 8 := ⟨rfl, fun w h => z_in (zpl [651, 653, 655, 657, 659, 661, 663] (show u_ws RX7 TX7 7 = _ by decide +kernel) h), tyX7_ok, nmX7⟩
theorem zcl_9 : zclok 9 := ⟨rfl, fun w h => z_in (zpl [345, 347, 349, 351, 353, 355, 357, 359, 361, 363] (show u_ws RX8 TX8 10 = _ by decide +kernel) h), tyX8_ok, nmX8⟩
theorem zcl_10 : zclok 10 := ⟨rfl, fun w h => z_in (zpl [726, 727, 728, 729, 730, 731, 732, 724] (show u_ws RX9 TX9 8 = _ by decide +kernel) h), tyX9_ok, nmX9⟩
theorem zcl_11 : zclok 11 := ⟨rfl, fun w h => z_in (zpl [214, 216, 218, 220, 222, 224] (show u_ws RX10 TX10 6 = _ by decide +kernel) h), tyX10_ok, nmX10⟩
theorem zcl_12 : zclok 12 := ⟨rfl, fun w h => z_in (zpl [1098, 1100, 1102, 1104, 1106, 1108, 1110, 1112, 1114, 1116, 1118, 1120, 1122, 1124, 1126, 1128, 1130, 1132, 1134, 1136, 1138, 1140, 1142, 1144, 1146, 1148, 1150, 1152, 1154, 1156] (show u_ws RX11 TX11 30 = _ by decide +kernel) h), tyX11_ok, nmX11⟩
theorem zcl_ok : ∀ c, c < 13 → zclok c := by
  intro c hc
  match c, hc with
  | 0, _ => exact zcl_0
  | 1, _ => exact zcl_1
  | 2, _ => exact zcl_2
  | 3, _ => exact zcl_3
  | 4, _ => exact zcl_4
  | 5, _ => exact zcl_5
  | 6, _ => exact zcl_6
  | 7, _ => exact zcl_7
  | 8, _ => exact zcl_8
  | 9, _ => exact zcl_9
  | 10, _ => exact zcl_10
  | 11, _ => exact zcl_11
  | 12, _ => exact zcl_12
  | c + 13, hc => omega
/-- field numbers: in an object of class c, of the field link t -/
def zFK : List (List (Nat × Nat)) := [[(14, 1), (15, 2), (16, 0), (17, 0)],
  [(71, 0), (72, 0), (73, 1), (74, 1), (75, 1), (76, 2), (77, 2), (78, 2), (79, 2), (80, 2), (81, 2), (82, 2), (83, 2), (84, 2), (85, 3), (86, 3), (87, 3), (88, 3), (89, 3), (90, 4), (91, 4), (92, 4), (93, 4), (94, 5), (95, 5), (96, 5), (97, 6), (98, 6), (99, 6), (111, 7), (112, 7), (113, 8), (114, 8), (115, 9), (116, 9), (117, 10), (118, 10), (119, 10), (120, 11), (121, 11), (122, 12)],
  [(100, 0), (101, 0), (102, 1), (103, 1), (104, 2), (105, 2), (106, 2), (107, 2)],
  [(22, 0), (23, 1), (24, 1), (25, 1)],
  [(18, 0), (19, 1), (20, 1), (21, 1)],
  [(26, 0), (27, 1), (28, 1), (29, 2), (30, 2), (31, 2), (32, 3), (33, 3), (34, 4), (35, 5), (36, 5), (37, 5), (38, 6), (39, 6), (40, 7), (41, 7)],
  [(42, 0), (43, 1), (44, 2), (45, 3), (46, 4)],
  [(0, 0), (1, 0), (2, 0), (3, 1), (4, 1), (5, 1), (6, 1), (7, 2), (8, 2), (9, 2), (10, 2), (11, 3), (12, 4)],
  [(71, 0), (72, 0), (73, 1), (74, 1), (75, 1), (76, 2), (77, 2), (78, 2), (79, 2), (80, 2), (81, 2), (82, 2), (83, 2), (84, 2), (85, 3), (86, 3), (87, 3), (88, 3), (89, 3), (90, 4), (91, 4), (92, 4), (93, 4), (94, 5), (95, 5), (96, 5), (97, 6), (98, 6), (99, 6)],
  [(53, 0), (54, 1), (55, 2), (56, 3), (57, 4), (58, 5), (59, 6), (60, 7), (61, 8), (62, 9)],
  [(71, 0), (72, 0), (73, 1), (74, 1), (75, 1), (76, 2), (77, 2), (78, 2), (79, 2), (80, 2), (81, 2), (82, 2), (83, 2), (84, 2), (85, 3), (86, 3), (87, 3), (88, 3), (89, 3), (90, 4), (91, 4), (92, 4), (93, 4), (94, 5), (95, 5), (96, 5), (97, 6), (98, 6), (99, 6), (108, 7), (109, 7), (110, 7)],
  [(47, 0), (48, 1), (49, 2), (50, 3), (51, 4), (52, 5)],
  [(123, 0), (124, 1), (125, 2), (126, 3), (127, 4), (128, 5), (129, 6), (130, 7), (131, 8), (132, 9), (133, 10), (134, 11), (135, 12), (136, 13), (137, 14), (138, 15), (139, 16), (140, 17), (141, 18), (142, 19), (143, 20), (144, 21), (145, 22), (146, 23), (147, 24), (148, 25), (149, 26), (150, 27), (151, 28), (152, 29)]]
def zfkE : List (Nat × Nat) → Nat → Option Nat
  | [], _ => none
  | q :: r, t => match Nat.beq q.1 t with
    | true => some q.2
    | false => zfkE r t
def zfkR : List (List (Nat × Nat)) → Nat → Nat → Option Nat
  | [], _, _ => none
  | l :: _, 0, t => zfkE l t
  | _ :: r, c + 1, t => zfkR r c t
def zfk (c t : Nat) : Option Nat := zfkR zFK c t
def zfkchk (c t k : Nat) : Bool := match zFR[t]? with
  | some q => decide (c < 13) && decide (k < (zcl c).2.2.1) && decide (((zcl c).2.1 k).2.1 = q.2.2.2.1) && decide (((zcl c).2.1 k).2.2.1 = q.2.2.2.2) && (decide (((zcl c).2.1 k).1 = q.2.2.1) || decide ((q.2.2.1, ((zcl c).2.1 k).1, q.2.2.2.1, q.2.2.2.2) ∈ zSF))
  | none => false
def zfkall : Nat → List (List (Nat × Nat)) → Bool
  | _, [] => true
  | c, l :: r => l.all (fun q => zfkchk c q.1 q.2) && zfkall (c + 1) r
theorem zfk_all : zfkall 0 zFK = true := by decide +kernel
theorem zfkE_in {l : List (Nat × Nat)} {t k : Nat} (h : zfkE l t = some k) : (t, k) ∈ l := by
  induction l with
  | nil => cases h
  | cons a r ih =>
    simp only [zfkE] at h
    split at h
    · rename_i c
      cases h
      rw [← Nat.eq_of_beq_eq_true c]
      exact List.mem_cons_self
    · exact List.mem_cons_of_mem _ (ih h)
theorem zfkR_in {l : List (List (Nat × Nat))} {b c t k : Nat} (ha : zfkall b l = true) (h : zfkR l c t = some k) : zfkchk (b + c) t k = true := by
  induction l generalizing b c with
  | nil => cases h
  | cons a r ih =>
    simp only [zfkall, Bool.and_eq_true] at ha
    cases c with
    | zero => exact List.all_eq_true.mp ha.1 _ (zfkE_in h)
    | succ c =>
      have := ih ha.2 h
      rwa [show b + 1 + c = b + (c + 1) by omega] at this
theorem zfk_ok {c t k : Nat} (h : zfk c t = some k) {q : String × Nat × String × String × String} (hq : zFR[t]? = some q) : zclok c ∧ k < (zcl c).2.2.1 ∧ ((zcl c).2.1 k).2.1 = q.2.2.2.1 ∧ ((zcl c).2.1 k).2.2.1 = q.2.2.2.2 ∧ (((zcl c).2.1 k).1 = q.2.2.1 ∨ (q.2.2.1, ((zcl c).2.1 k).1, q.2.2.2.1, q.2.2.2.2) ∈ zSF) := by
  have := zfkR_in zfk_all h
  simp only [zfkchk, Nat.zero_add, hq, Bool.and_eq_true, Bool.or_eq_true, decide_eq_true_eq] at this
  obtain ⟨⟨⟨⟨h1, h2⟩, h3⟩, h4⟩, h5⟩ := this
  exact ⟨zcl_ok c h1, h2, h3, h4, h5⟩
/-! castable pairs; which classes can be made -/
def zCT : List (String × String) := [("java/lang/IllegalArgumentException", "java/lang/IllegalArgumentException"), ("java/lang/IllegalStateException", "java/lang/IllegalStateException"), ("java/lang/IndexOutOfBoundsException", "java/lang/IndexOutOfBoundsException"), ("ShadowWard$Block", "ShadowWard$Region"), ("ShadowWard$Region", "ShadowWard$Region"), ("ShadowWard$Variable", "ShadowWard$Region"), ("ShadowWard$Frame", "ShadowWard$Frame"), ("ShadowWard$Block", "ShadowWard$Block"), ("ShadowWard$Variable", "ShadowWard$Variable"), ("ShadowWard$Report", "ShadowWard$Report"), ("ShadowWard", "java/lang/Object"), ("ShadowWard$Memory", "java/lang/Object"), ("ShadowWard$Globals", "java/lang/Object"), ("ShadowWard$Frames", "java/lang/Object"), ("ShadowWard$Heap", "java/lang/Object"), ("ShadowWard$LostSearch", "java/lang/Object"), ("ShadowWardModel", "java/lang/Object"), ("ShadowWard$Region", "java/lang/Object"), ("ShadowWard$Frame", "java/lang/Object"), ("ShadowWard$Variable", "java/lang/Object"), ("ShadowWard$Block", "java/lang/Object"), ("ShadowWard$Report", "java/lang/Object"), ("java/lang/String", "java/lang/Object")]
def zisC : Jvm.Cond → Bool
  | .castable _ _ => true
  | _ => false
theorem zCT_eq : zCT.map (fun q => Jvm.Cond.castable q.1 q.2) = tables_1.filter zisC := by decide +kernel
theorem zCT_in {q : String × String} (h : q ∈ zCT) : Jvm.Cond.castable q.1 q.2 ∈ lw_tbl := z_in (zmf (by rw [← zCT_eq]; exact List.mem_map.mpr ⟨q, h, rfl⟩))
def zcast (ci : Nat) (nm : String) : Bool := decide (ci < 13) && decide (((zcl ci).1, nm) ∈ zCT)
theorem zct {X : zCx} (G : zG X) {s : State} (hW : (zs X).WarmedH s.vm) {a b : String} (h : (a, b) ∈ zCT) : ∃ c t, s.vm.findClass a = some c ∧ s.vm.findClass b = some t ∧ s.vm.assignable c t = true := by
  obtain ⟨c, t, h1, h2, h3⟩ := Cond.castable_spec (G.1 _ (zCT_in h))
  exact ⟨c, t, by rw [hW.alike.findClass]; exact h1, by rw [hW.alike.findClass]; exact h2, by rw [hW.alike.assignable]; exact h3⟩
theorem zcast_ok {X : zCx} (G : zG X) {s : State} {args : Array Value} (hW : (zs X).WarmedH s.vm) {ci : Nat} {nm : String} (h : zcast ci nm = true) : ClassAt s (zcl ci).1 ((zD X).1 ci) ∧ ∃ c t, s.vm.findClass (zcl ci).1 = some c ∧ s.vm.findClass nm = some t ∧ s.vm.assignable c t = true := by
  simp only [zcast, Bool.and_eq_true, decide_eq_true_eq] at h
  exact ⟨((zKs G hW).1 ci _ (zcl_ok ci h.1).1).2, zct G hW h.2⟩
theorem zcn : ∀ c, c < 13 → Jvm.Cond.instantiable (zcl c).1 (zcl c).2.2.1 ∈ lw_tbl ∧ Jvm.Cond.initialized (zcl c).1 ∈ lw_tbl := by
  intro c hc
  match c, hc with
  | 0, _ => exact ⟨z_in (List.mem_of_getElem? (i := 88) (by decide +kernel)), z_in (List.mem_of_getElem? (i := 7) (by decide +kernel))⟩
  | 1, _ => exact ⟨z_in (List.mem_of_getElem? (i := 869) (by decide +kernel)), z_in (List.mem_of_getElem? (i := 26) (by decide +kernel))⟩
  | 2, _ => exact ⟨z_in (List.mem_of_getElem? (i := 689) (by decide +kernel)), z_in (List.mem_of_getElem? (i := 22) (by decide +kernel))⟩
  | 3, _ => exact ⟨z_in (List.mem_of_getElem? (i := 123) (by decide +kernel)), z_in (List.mem_of_getElem? (i := 8) (by decide +kernel))⟩
  | 4, _ => exact ⟨z_in (List.mem_of_getElem? (i := 82) (by decide +kernel)), z_in (List.mem_of_getElem? (i := 4) (by decide +kernel))⟩
  | 5, _ => exact ⟨z_in (List.mem_of_getElem? (i := 140) (by decide +kernel)), z_in (List.mem_of_getElem? (i := 9) (by decide +kernel))⟩
  | 6, _ => exact ⟨z_in (List.mem_of_getElem? (i := 183) (by decide +kernel)), z_in (List.mem_of_getElem? (i := 10) (by decide +kernel))⟩
  | 7, _ => exact ⟨z_in (List.mem_of_getElem? (i := 38) (by decide +kernel)), z_in (List.mem_of_getElem? (i := 2) (by decide +kernel))⟩
  | 8, _ => exact ⟨z_in (List.mem_of_getElem? (i := 609) (by decide +kernel)), z_in (List.mem_of_getElem? (i := 18) (by decide +kernel))⟩
  | 9, _ => exact ⟨z_in (List.mem_of_getElem? (i := 322) (by decide +kernel)), z_in (List.mem_of_getElem? (i := 28) (by decide +kernel))⟩
  | 10, _ => exact ⟨z_in (List.mem_of_getElem? (i := 716) (by decide +kernel)), z_in (List.mem_of_getElem? (i := 23) (by decide +kernel))⟩
  | 11, _ => exact ⟨z_in (List.mem_of_getElem? (i := 30) (by decide +kernel)), z_in (List.mem_of_getElem? (i := 1) (by decide +kernel))⟩
  | 12, _ => exact ⟨z_in (List.mem_of_getElem? (i := 1063) (by decide +kernel)), z_in (List.mem_of_getElem? (i := 11) (by decide +kernel))⟩
  | c + 13, hc => omega
end
section
abbrev zI (X : zCx) (n : Nat) (g : Nat → Int32) : va_E := .inl (zA X 0, n, .inl g)
abbrev zJ (X : zCx) (n : Nat) (g : Nat → Int64) : va_E := .inl (zA X 1, n, .inr (.inl g))
abbrev zY (X : zCx) (n : Nat) (g : Nat → Int32) : va_E := .inl (zA X 2, n, .inl g)
abbrev zZ (X : zCx) (n : Nat) (g : Nat → Int32) : va_E := .inl (zA X 3, n, .inl g)
abbrev zOb (X : zCx) (n : Nat) (g : Nat → Option Nat) : va_E := .inl (zA X 4, n, .inr (.inr (.inr (.inr g))))
abbrev zBk (X : zCx) (n : Nat) (g : Nat → Option Nat) : va_E := .inl (zA X 5, n, .inr (.inr (.inr (.inr g))))
theorem zgl {C : String} {T : u_T} {N : Nat} {w : Jvm.Cond} (h : w ∈ u_ws C T N) : goodWord w = true := by
  unfold u_ws at h
  obtain ⟨k, -, rfl⟩ := List.mem_map.mp h
  unfold u_lay
  split <;> rfl
theorem z_ix {i : Int32} {j n : Nat} (hi : i.toInt = (j : Int)) (hj : j < n) : vp_in i n ∧ i.toNatClampNeg = j := by
  refine ⟨vp_in_iff.mpr ⟨by omega, by omega⟩, ?_⟩
  show i.toInt.toNat = j
  omega
theorem z_at {X : zCx} {h : zHp} {H : Heap} (hR : zR X h H) {a : Nat} {e : va_E} (hh : h.1 a = some e) : va_at (zD X) vwCl (a, e) H := (hR.2.2.2.1 a e hh).2
theorem z_bs {X : zCx} {h : zHp} {H : Heap} (hR : zR X h H) {a : Nat} {e : va_E} (hh : h.1 a = some e) : zB X ≤ a := (hR.2.2.2.1 a e hh).1
theorem z_lc {X : zCx} {locs : List Loc} {a i : Nat} (h : ∀ q ∈ locs, zB X ≤ q.base) (ha : zB X ≤ a) : ∀ q ∈ locs ++ [(⟨a, i⟩ : Loc)], zB X ≤ q.base := by
  intro q hq
  rcases List.mem_append.mp hq with h1 | h1
  · exact h q h1
  · rw [List.mem_singleton.mp h1]
    exact ha
section ZH
variable {X : zCx} {M : zMI} {f : zFr} {h : zHp} {pc : Nat} {L : zLo} {st : List Value} {Q : zRs → zHp → Prop}
theorem z_get {a ci : Nat} {fs : List Value} {k p0 idx nx t : Nat} {lv : Int32} {v : Value} {ref name desc : String} (hh : h.1 a = some (.inr (ci, fs))) (hf : zlk (zFt M) pc = some (p0, .getfield idx, nx, lv, t)) (hr : zFR[t]? = some ((zNm M).cls, idx, ref, name, desc)) (hk : zfk ci t = some k) (hv : fs[k]? = some v) (kk : Z X M f h nx L (v :: st) Q) : Z X M f h pc L (.ref a :: st) Q := by
  intro p ev s m args below meth c H locs ls E hR hn hk0 hlo hl
  obtain ⟨hG, hM, hx, hb, -, -, -, hown, hW, -⟩ := id E
  obtain ⟨d, rfl, -⟩ := zdn hM hf (n := 2) rfl
  obtain ⟨hcl, hkN, e1, e2, e3⟩ := zfk_ok hk hr
  dsimp only at e1 e2 e3
  have hlk : (Jvm.Cond.fieldLink (zNm M).cls idx ref name desc).before args s = true := zw hG hW (zFR_in hr) rfl
  refine va_get (D := zD X) (ci := ci) (v := v) (C := (zcl ci).1) (T := (zcl ci).2.1) (N := (zcl ci).2.2.1) (ref := ref) (Ts := u_ws (zcl ci).1 (zcl ci).2.1 (zcl ci).2.2.1) hx hb (fun w hw => zw hG hW (hcl.2.1 w hw) (zgl hw)) (fun w hw => hw) hown (zKs hG hW) (hR.at hh) 0 rfl hcl.1 k hkN (by rw [e1, e2]; exact hlk) (fun x ho => ?_) hv d (kk p ev s m args below meth c H locs ls E hR hn hk0 hlo hl)
  rw [e1, e2] at ho ⊢
  rcases e3 with e3 | e3
  · rw [← e3]; exact ho
  · exact u_same (args := args) (zw hG hW (zSF_in e3) rfl) x ho
theorem z_put {a ci : Nat} {fs : List Value} {k p0 idx nx t : Nat} {lv : Int32} {v : Value} {ref name desc : String} (hh : h.1 a = some (.inr (ci, fs))) (hf : zlk (zFt M) pc = some (p0, .putfield idx, nx, lv, t)) (hr : zFR[t]? = some ((zNm M).cls, idx, ref, name, desc)) (hk : zfk ci t = some k) (hfin : ((zcl ci).2.1 k).2.2.2 = false) (hnv : narrow ((zcl ci).2.2.2 k) v = v) (hfv : fits ((zcl ci).2.2.2 k) v = true) (hlen : k < fs.length)
    (kk : Z X M f (zset h a (.inr (ci, fs.set k v))) nx L st Q) : Z X M f h pc L (v :: .ref a :: st) Q := by
  intro p ev s m args below meth c H locs ls E hR hn hk0 hlo hl
  obtain ⟨hG, hM, hx, hb, -, -, -, hown, hW, -⟩ := id E
  obtain ⟨d, rfl, -⟩ := zdn hM hf (n := 2) rfl
  obtain ⟨hcl, hkN, e1, e2, e3⟩ := zfk_ok hk hr
  dsimp only at e1 e2 e3
  have hlk : (Jvm.Cond.fieldLink (zNm M).cls idx ref name desc).before args s = true := zw hG hW (zFR_in hr) rfl
  have hts : ∀ w ∈ u_ws (zcl ci).1 (zcl ci).2.1 (zcl ci).2.2.1, w.before args s = true := fun w hw => zw hG hW (hcl.2.1 w hw) (zgl hw)
  have hK := zKs hG hW
  have hap := va_apart (own := (zNm M).cls) (D := zD X) (args := args) hts (fun w hw => hw) (zcl ci).2.2.2 hcl.2.2.1 hcl.2.2.2 hK hcl.1
  obtain ⟨r, h1, cell, q1, q2, q3, q4⟩ := z_at hR hh
  have hr9 : r = ((zcl ci).1, (zcl ci).2.1, (zcl ci).2.2.1) := Option.some.inj (h1.symm.trans hcl.1)
  subst hr9
  obtain ⟨hS, hfc, kC, hkC, hkind⟩ := hK.1 ci _ hcl.1
  obtain ⟨cf, kf, fi, fd, hi, hsl⟩ := hS k hkN
  have hlay := hts _ (u_in_lay hkN)
  unfold u_lay at hlay
  rw [if_neg (by rw [hfin]; decide)] at hlay
  have hst := (u_facts hfc hkC (u_lays hts (fun w hw => hw) hkN) hi).1
  have h6 := u_store hfc hkC hkind hlay hi (hcl.2.2.1 k hkN) hnv hfv
  have hsame : s.fieldFound? ref name desc = some (cf, kf, fi, fd) := by
    have ho := hi
    dsimp only at ho
    rw [e1, e2] at ho
    rcases e3 with e3 | e3
    · rw [← e3]; exact ho
    · exact u_same (args := args) (zw hG hW (zSF_in e3) rfl) _ ho
  refine W.putK hx hb (f := fd) ⟨hown, hlk, ⟨_, _, _, hsame⟩, hst⟩ (by rw [q2]; exact h6) q1 q3 (by rw [hsl]; exact k2_hasslot (q4 k hkN)) rfl rfl d fun H' g1 g2 g3 => ?_
  rw [hsl] at g1 ⊢
  exact kk p ev s m args below meth c H' _ ls E (hR.put (z_bs hR hh) ⟨_, hcl.1, t_OB.to (V := updV (vp_V fs) k v) ⟨_, g1, q2, q3, t_set q4 hap hkN v⟩ (fun j _ => vp_updV_set hlen v j)⟩ g2 g3) hn hk0 (z_lc hlo (z_bs hR hh)) hl
theorem z_putF {a ci : Nat} {fs : List Value} {k p0 idx nx t : Nat} {lv : Int32} {v : Value} {ref name desc : String} (hh : h.1 a = some (.inr (ci, fs))) (hf : zlk (zFt M) pc = some (p0, .putfield idx, nx, lv, t)) (hr : zFR[t]? = some ((zNm M).cls, idx, ref, name, desc)) (hk : zfk ci t = some k) (hfin : ((zcl ci).2.1 k).2.2.2 = true) (hini : (zNm M).name = "<init>") (hdecl : ((zcl ci).2.1 k).1 = (zNm M).cls) (hnv : narrow ((zcl ci).2.2.2 k) v = v) (hfv : fits ((zcl ci).2.2.2 k) v = true) (hlen : k < fs.length)
    (kk : Z X M f (zset h a (.inr (ci, fs.set k v))) nx L st Q) : Z X M f h pc L (v :: .ref a :: st) Q := by
  intro p ev s m args below meth c H locs ls E hR hn hk0 hlo hl
  obtain ⟨hG, hM, hx, hb, -, -, -, hown, hW, -, hmn, -⟩ := id E
  obtain ⟨d, rfl, -⟩ := zdn hM hf (n := 2) rfl
  obtain ⟨hcl, hkN, e1, e2, e3⟩ := zfk_ok hk hr
  dsimp only at e1 e2 e3
  have hlk : (Jvm.Cond.fieldLink (zNm M).cls idx ref name desc).before args s = true := zw hG hW (zFR_in hr) rfl
  have hts : ∀ w ∈ u_ws (zcl ci).1 (zcl ci).2.1 (zcl ci).2.2.1, w.before args s = true := fun w hw => zw hG hW (hcl.2.1 w hw) (zgl hw)
  have hK := zKs hG hW
  have hap := va_apart (own := (zNm M).cls) (D := zD X) (args := args) hts (fun w hw => hw) (zcl ci).2.2.2 hcl.2.2.1 hcl.2.2.2 hK hcl.1
  obtain ⟨r, h1, cell, q1, q2, q3, q4⟩ := z_at hR hh
  have hr9 : r = ((zcl ci).1, (zcl ci).2.1, (zcl ci).2.2.1) := Option.some.inj (h1.symm.trans hcl.1)
  subst hr9
  obtain ⟨hS, hfc, kC, hkC, hkind⟩ := hK.1 ci _ hcl.1
  obtain ⟨cf, kf, fi, fd, hi, hsl⟩ := hS k hkN
  have hlay := hts _ (u_in_lay hkN)
  unfold u_lay at hlay
  rw [if_pos hfin] at hlay
  have hst := (u_facts hfc hkC (u_lays hts (fun w hw => hw) hkN) hi).1
  have hcf : m.cls = cf := by
    obtain ⟨_, _, c', _, _, _, -, -, hf', -, -, -, hown2, -⟩ := Cond.laysFinal_spec hlay
    have e9 : c' = cf := by have := hi.symm.trans hf'; simp at this; exact this.1.symm
    rw [hdecl] at hown2
    rw [← e9]; exact Option.some.inj (hown.symm.trans hown2)
  have h6 := u_fits hfc hkC hkind (Or.inr hlay) hi (hcl.2.2.1 k hkN) hnv hfv
  have hsame : s.fieldFound? ref name desc = some (cf, kf, fi, fd) := by
    have ho := hi
    dsimp only at ho
    rw [e1, e2] at ho
    rcases e3 with e3 | e3
    · rw [← e3]; exact ho
    · exact u_same (args := args) (zw hG hW (zSF_in e3) rfl) _ ho
  refine W.putFinK hx hb hown hlk hsame hst hcf (hmn.trans hini) (by rw [q2]; exact h6) q1 q3 (by rw [hsl]; exact k2_hasslot (q4 k hkN)) rfl rfl d fun H' g1 g2 g3 => ?_
  rw [hsl] at g1 ⊢
  exact kk p ev s m args below meth c H' _ ls E (hR.put (z_bs hR hh) ⟨_, hcl.1, t_OB.to (V := updV (vp_V fs) k v) ⟨_, g1, q2, q3, t_set q4 hap hkN v⟩ (fun j _ => vp_updV_set hlen v j)⟩ g2 g3) hn hk0 (z_lc hlo (z_bs hR hh)) hl
-- ARRAYS
theorem z_iald {a n : Nat} {g : Nat → Int32} {i : Int32} {p0 nx t : Nat} {lv : Int32} (j : Nat) (hh : h.1 a = some (zI X n g)) (hf : zlk (zFt M) pc = some (p0, .iaload, nx, lv, t)) (hi : i.toInt = (j : Int)) (hj : j < n) (kk : Z X M f h nx L (.int (g j) :: st) Q) : Z X M f h pc L (.int i :: .ref a :: st) Q := by
  intro p ev s m args below meth c H locs ls E hR hn hk0 hlo hl
  obtain ⟨hG, hM, hx, hb, -, -, -, hown, hW, -⟩ := id E
  obtain ⟨d, rfl, -⟩ := zdn hM hf (n := 0) rfl
  obtain ⟨hin, hcl⟩ := z_ix hi hj
  refine va_iald (D := zD X) (cl := vwCl) (ws := [(a, zI X n g)]) hx hb (zKs hG hW) (hR.at hh) 0 0 rfl (zTys_at X (k := 0) (by decide)) hin d ?_
  rw [hcl]
  exact kk p ev s m args below meth c H locs ls E hR hn hk0 hlo hl
theorem z_lald {a n : Nat} {g : Nat → Int64} {i : Int32} {p0 nx t : Nat} {lv : Int32} (j : Nat) (hh : h.1 a = some (zJ X n g)) (hf : zlk (zFt M) pc = some (p0, .laload, nx, lv, t)) (hi : i.toInt = (j : Int)) (hj : j < n) (kk : Z X M f h nx L (.long (g j) :: st) Q) : Z X M f h pc L (.int i :: .ref a :: st) Q := by
  intro p ev s m args below meth c H locs ls E hR hn hk0 hlo hl
  obtain ⟨hG, hM, hx, hb, -, -, -, hown, hW, -⟩ := id E
  obtain ⟨d, rfl, -⟩ := zdn hM hf (n := 0) rfl
  obtain ⟨hin, hcl⟩ := z_ix hi hj
  refine va_lald (D := zD X) (cl := vwCl) (ws := [(a, zJ X n g)]) hx hb (zKs hG hW) (hR.at hh) 0 1 rfl (zTys_at X (k := 1) (by decide)) hin d ?_
  rw [hcl]
  exact kk p ev s m args below meth c H locs ls E hR hn hk0 hlo hl
theorem z_bald {a n : Nat} {g : Nat → Int32} {i : Int32} {p0 nx t : Nat} {lv : Int32} (j : Nat) (hh : h.1 a = some (zY X n g)) (hf : zlk (zFt M) pc = some (p0, .baload, nx, lv, t)) (hi : i.toInt = (j : Int)) (hj : j < n) (kk : Z X M f h nx L (.int (g j) :: st) Q) : Z X M f h pc L (.int i :: .ref a :: st) Q := by
  intro p ev s m args below meth c H locs ls E hR hn hk0 hlo hl
  obtain ⟨hG, hM, hx, hb, -, -, -, hown, hW, -⟩ := id E
  obtain ⟨d, rfl, -⟩ := zdn hM hf (n := 0) rfl
  obtain ⟨hin, hcl⟩ := z_ix hi hj
  refine va_bald (D := zD X) (cl := vwCl) (ws := [(a, zY X n g)]) hx hb (zKs hG hW) (hR.at hh) 0 2 rfl (zTys_at X (k := 2) (by decide)) hin d ?_
  rw [hcl]
  exact kk p ev s m args below meth c H locs ls E hR hn hk0 hlo hl
theorem z_zald {a n : Nat} {g : Nat → Int32} {i : Int32} {p0 nx t : Nat} {lv : Int32} (j : Nat) (hh : h.1 a = some (zZ X n g)) (hf : zlk (zFt M) pc = some (p0, .baload, nx, lv, t)) (hi : i.toInt = (j : Int)) (hj : j < n) (kk : Z X M f h nx L (.int (g j) :: st) Q) : Z X M f h pc L (.int i :: .ref a :: st) Q := by
  intro p ev s m args below meth c H locs ls E hR hn hk0 hlo hl
  obtain ⟨hG, hM, hx, hb, -, -, -, hown, hW, -⟩ := id E
  obtain ⟨d, rfl, -⟩ := zdn hM hf (n := 0) rfl
  obtain ⟨hin, hcl⟩ := z_ix hi hj
  refine va_zald (D := zD X) (cl := vwCl) (ws := [(a, zZ X n g)]) hx hb (zKs hG hW) (hR.at hh) 0 3 rfl (zTys_at X (k := 3) (by decide)) hin d ?_
  rw [hcl]
  exact kk p ev s m args below meth c H locs ls E hR hn hk0 hlo hl
theorem z_oald {a n : Nat} {g : Nat → Option Nat} {i : Int32} {p0 nx t : Nat} {lv : Int32} (j : Nat) (hh : h.1 a = some (zOb X n g)) (hf : zlk (zFt M) pc = some (p0, .aaload, nx, lv, t)) (hi : i.toInt = (j : Int)) (hj : j < n) (kk : Z X M f h nx L (va_rf (g j) :: st) Q) : Z X M f h pc L (.int i :: .ref a :: st) Q := by
  intro p ev s m args below meth c H locs ls E hR hn hk0 hlo hl
  obtain ⟨hG, hM, hx, hb, -, -, -, hown, hW, -⟩ := id E
  obtain ⟨d, rfl, -⟩ := zdn hM hf (n := 0) rfl
  obtain ⟨hin, hcl⟩ := z_ix hi hj
  refine va_aldq (D := zD X) (cl := vwCl) (ws := [(a, zOb X n g)]) hx hb (zKs hG hW) (hR.at hh) 0 4 rfl (zTys_at X (k := 4) (by decide)) hin d ?_
  rw [hcl]
  exact kk p ev s m args below meth c H locs ls E hR hn hk0 hlo hl
theorem z_kald {a n : Nat} {g : Nat → Option Nat} {i : Int32} {p0 nx t : Nat} {lv : Int32} (j : Nat) (hh : h.1 a = some (zBk X n g)) (hf : zlk (zFt M) pc = some (p0, .aaload, nx, lv, t)) (hi : i.toInt = (j : Int)) (hj : j < n) (kk : Z X M f h nx L (va_rf (g j) :: st) Q) : Z X M f h pc L (.int i :: .ref a :: st) Q := by
  intro p ev s m args below meth c H locs ls E hR hn hk0 hlo hl
  obtain ⟨hG, hM, hx, hb, -, -, -, hown, hW, -⟩ := id E
  obtain ⟨d, rfl, -⟩ := zdn hM hf (n := 0) rfl
  obtain ⟨hin, hcl⟩ := z_ix hi hj
  refine va_aldq (D := zD X) (cl := vwCl) (ws := [(a, zBk X n g)]) hx hb (zKs hG hW) (hR.at hh) 0 5 rfl (zTys_at X (k := 5) (by decide)) hin d ?_
  rw [hcl]
  exact kk p ev s m args below meth c H locs ls E hR hn hk0 hlo hl
theorem z_iast {a n : Nat} {g : Nat → Int32} {i : Int32} {x : Int32} {p0 nx t : Nat} {lv : Int32} (j : Nat) (hh : h.1 a = some (zI X n g)) (hf : zlk (zFt M) pc = some (p0, .iastore, nx, lv, t)) (hi : i.toInt = (j : Int)) (hj : j < n) (kk : Z X M f (zset h a (zI X n (upd g j x))) nx L st Q) : Z X M f h pc L (.int x :: .int i :: .ref a :: st) Q := by
  intro p ev s m args below meth c H locs ls E hR hn hk0 hlo hl
  obtain ⟨hG, hM, hx, hb, -, -, -, hown, hW, -⟩ := id E
  obtain ⟨d, rfl, -⟩ := zdn hM hf (n := 0) rfl
  obtain ⟨hin, hcl⟩ := z_ix hi hj
  have hcell : H[a]? = some (vp_cell (zA X 0) _) := z_at hR hh
  refine W.iast hx hb hcell (((zKs hG hW).2 0 _ (zTys_at X (k := 0) (by decide))).1 n _) (fun q => by cases q) (by show ¬ (i < 0 ∨ (arrV _ _ _).slots.size ≤ _); rw [arrV_size]; exact hin) rfl rfl d fun H1 e1 z1 oq => ?_
  rw [hcl] at e1 ⊢
  refine kk p ev s m args below meth c H1 _ ls E (hR.put (z_bs hR hh) (show H1[a]? = some (vp_cell _ _) from ?_) z1 oq) hn hk0 (z_lc hlo (z_bs hR hh)) hl
  rw [e1, vp_cell_i, vp_cell_i, arrV_store]
  congr 2
  funext q
  by_cases hq : q = j
  · subst hq
    simp [updV, upd]
  · simp [updV, upd, hq]
theorem z_last {a n : Nat} {g : Nat → Int64} {i : Int32} {x : Int64} {p0 nx t : Nat} {lv : Int32} (j : Nat) (hh : h.1 a = some (zJ X n g)) (hf : zlk (zFt M) pc = some (p0, .lastore, nx, lv, t)) (hi : i.toInt = (j : Int)) (hj : j < n) (kk : Z X M f (zset h a (zJ X n (vp_updL g j x))) nx L st Q) : Z X M f h pc L (.long x :: .int i :: .ref a :: st) Q := by
  intro p ev s m args below meth c H locs ls E hR hn hk0 hlo hl
  obtain ⟨hG, hM, hx, hb, -, -, -, hown, hW, -⟩ := id E
  obtain ⟨d, rfl, -⟩ := zdn hM hf (n := 0) rfl
  obtain ⟨hin, hcl⟩ := z_ix hi hj
  have hcell : H[a]? = some (vp_cell (zA X 1) _) := z_at hR hh
  refine W.last hx hb hcell (((zKs hG hW).2 1 _ (zTys_at X (k := 1) (by decide))).1 n _) (fun q => by cases q) (by show ¬ (i < 0 ∨ (arrV _ _ _).slots.size ≤ _); rw [arrV_size]; exact hin) rfl rfl d fun H1 e1 z1 oq => ?_
  rw [hcl] at e1 ⊢
  refine kk p ev s m args below meth c H1 _ ls E (hR.put (z_bs hR hh) (show H1[a]? = some (vp_cell _ _) from ?_) z1 oq) hn hk0 (z_lc hlo (z_bs hR hh)) hl
  rw [e1, vp_cell_l, vp_cell_l, arrV_store]
  congr 2
  funext q
  by_cases hq : q = j
  · subst hq
    simp [updV, vp_updL]
  · simp [updV, vp_updL, hq]
theorem z_bast {a n : Nat} {g : Nat → Int32} {i : Int32} {x : Int32} {p0 nx t : Nat} {lv : Int32} (j : Nat) (hh : h.1 a = some (zY X n g)) (hf : zlk (zFt M) pc = some (p0, .bastore, nx, lv, t)) (hi : i.toInt = (j : Int)) (hj : j < n) (kk : Z X M f (zset h a (zY X n (upd g j x.toInt8.toInt32))) nx L st Q) : Z X M f h pc L (.int x :: .int i :: .ref a :: st) Q := by
  intro p ev s m args below meth c H locs ls E hR hn hk0 hlo hl
  obtain ⟨hG, hM, hx, hb, -, -, -, hown, hW, -⟩ := id E
  obtain ⟨d, rfl, -⟩ := zdn hM hf (n := 0) rfl
  obtain ⟨hin, hcl⟩ := z_ix hi hj
  have hcell : H[a]? = some (vp_cell (zA X 2) _) := z_at hR hh
  refine W.bast hx hb hcell (((zKs hG hW).2 2 _ (zTys_at X (k := 2) (by decide))).1 n _) (fun q => by cases q) (by show ¬ (i < 0 ∨ (arrV _ _ _).slots.size ≤ _); rw [arrV_size]; exact hin) rfl rfl d fun H1 e1 z1 oq => ?_
  rw [hcl] at e1 ⊢
  refine kk p ev s m args below meth c H1 _ ls E (hR.put (z_bs hR hh) (show H1[a]? = some (vp_cell _ _) from ?_) z1 oq) hn hk0 (z_lc hlo (z_bs hR hh)) hl
  rw [e1, vp_cell_i, vp_cell_i, arrV_store]
  congr 2
  funext q
  by_cases hq : q = j
  · subst hq
    simp [updV, upd]
    try rfl
  · simp [updV, upd, hq]
theorem z_zast {a n : Nat} {g : Nat → Int32} {i : Int32} {x : Int32} {p0 nx t : Nat} {lv : Int32} (j : Nat) (hh : h.1 a = some (zZ X n g)) (hf : zlk (zFt M) pc = some (p0, .bastore, nx, lv, t)) (hi : i.toInt = (j : Int)) (hj : j < n) (kk : Z X M f (zset h a (zZ X n (upd g j (vp_nar .boolean x)))) nx L st Q) : Z X M f h pc L (.int x :: .int i :: .ref a :: st) Q := by
  intro p ev s m args below meth c H locs ls E hR hn hk0 hlo hl
  obtain ⟨hG, hM, hx, hb, -, -, -, hown, hW, -⟩ := id E
  obtain ⟨d, rfl, -⟩ := zdn hM hf (n := 0) rfl
  obtain ⟨hin, hcl⟩ := z_ix hi hj
  have hcell : H[a]? = some (vp_cell (zA X 3) _) := z_at hR hh
  refine W.zast hx hb hcell (((zKs hG hW).2 3 _ (zTys_at X (k := 3) (by decide))).1 n _) (fun q => by cases q) (by show ¬ (i < 0 ∨ (arrV _ _ _).slots.size ≤ _); rw [arrV_size]; exact hin) rfl rfl d fun H1 e1 z1 oq => ?_
  rw [hcl] at e1 ⊢
  refine kk p ev s m args below meth c H1 _ ls E (hR.put (z_bs hR hh) (show H1[a]? = some (vp_cell _ _) from ?_) z1 oq) hn hk0 (z_lc hlo (z_bs hR hh)) hl
  rw [e1, vp_cell_i, vp_cell_i, arrV_store]
  congr 2
  funext q
  by_cases hq : q = j
  · subst hq
    simp [updV, upd, vp_nar]
    try rfl
  · simp [updV, upd, vp_nar, hq]
theorem z_oastN {a n : Nat} {g : Nat → Option Nat} {i : Int32} {p0 nx t : Nat} {lv : Int32} (j : Nat) (hh : h.1 a = some (zOb X n g)) (hf : zlk (zFt M) pc = some (p0, .aastore, nx, lv, t)) (hi : i.toInt = (j : Int)) (hj : j < n) (kk : Z X M f (zset h a (zOb X n (va_up g j none))) nx L st Q) : Z X M f h pc L (.null :: .int i :: .ref a :: st) Q := by
  intro p ev s m args below meth c H locs ls E hR hn hk0 hlo hl
  obtain ⟨hG, hM, hx, hb, -, -, -, hown, hW, -⟩ := id E
  obtain ⟨d, rfl, -⟩ := zdn hM hf (n := 0) rfl
  obtain ⟨hin, hcl⟩ := z_ix hi hj
  have hcell : H[a]? = some (vp_cell (zA X 4) _) := z_at hR hh
  refine va_WaastN (C := "java/lang/Object") hx hb hcell (((zKs hG hW).2 4 _ (zTys_at X (k := 4) (by decide))).1 n _) (fun h => by cases h) (by show ¬ (i < 0 ∨ (arrV _ _ _).slots.size ≤ _); rw [arrV_size]; exact hin) rfl rfl d fun H1 e1 z1 oq => ?_
  rw [hcl] at e1 ⊢
  refine kk p ev s m args below meth c H1 _ ls E (hR.put (z_bs hR hh) (show H1[a]? = some (vp_cell _ _) from ?_) z1 oq) hn hk0 (z_lc hlo (z_bs hR hh)) hl
  rw [e1, vp_cell_q, vp_cell_q, arrV_store]
  congr 2
  funext q
  by_cases hq : q = j
  · subst hq
    simp [updV, va_up, va_rf]
  · simp [updV, va_up, hq]
theorem z_kastN {a n : Nat} {g : Nat → Option Nat} {i : Int32} {p0 nx t : Nat} {lv : Int32} (j : Nat) (hh : h.1 a = some (zBk X n g)) (hf : zlk (zFt M) pc = some (p0, .aastore, nx, lv, t)) (hi : i.toInt = (j : Int)) (hj : j < n) (kk : Z X M f (zset h a (zBk X n (va_up g j none))) nx L st Q) : Z X M f h pc L (.null :: .int i :: .ref a :: st) Q := by
  intro p ev s m args below meth c H locs ls E hR hn hk0 hlo hl
  obtain ⟨hG, hM, hx, hb, -, -, -, hown, hW, -⟩ := id E
  obtain ⟨d, rfl, -⟩ := zdn hM hf (n := 0) rfl
  obtain ⟨hin, hcl⟩ := z_ix hi hj
  have hcell : H[a]? = some (vp_cell (zA X 5) _) := z_at hR hh
  refine va_WaastN (C := "ShadowWard$Block") hx hb hcell (((zKs hG hW).2 5 _ (zTys_at X (k := 5) (by decide))).1 n _) (fun h => by cases h) (by show ¬ (i < 0 ∨ (arrV _ _ _).slots.size ≤ _); rw [arrV_size]; exact hin) rfl rfl d fun H1 e1 z1 oq => ?_
  rw [hcl] at e1 ⊢
  refine kk p ev s m args below meth c H1 _ ls E (hR.put (z_bs hR hh) (show H1[a]? = some (vp_cell _ _) from ?_) z1 oq) hn hk0 (z_lc hlo (z_bs hR hh)) hl
  rw [e1, vp_cell_q, vp_cell_q, arrV_store]
  congr 2
  funext q
  by_cases hq : q = j
  · subst hq
    simp [updV, va_up, va_rf]
  · simp [updV, va_up, hq]
theorem z_oast {a n b ci : Nat} {fs : List Value} {g : Nat → Option Nat} {i : Int32} {p0 nx t : Nat} {lv : Int32} (j : Nat) (hh : h.1 a = some (zOb X n g)) (hob : h.1 b = some (.inr (ci, fs))) (hcs : zcast ci "java/lang/Object" = true) (hf : zlk (zFt M) pc = some (p0, .aastore, nx, lv, t)) (hi : i.toInt = (j : Int)) (hj : j < n) (kk : Z X M f (zset h a (zOb X n (va_up g j (some b)))) nx L st Q) : Z X M f h pc L (.ref b :: .int i :: .ref a :: st) Q := by
  intro p ev s m args below meth c H locs ls E hR hn hk0 hlo hl
  obtain ⟨hG, hM, hx, hb, -, -, -, hown, hW, -⟩ := id E
  obtain ⟨d, rfl, -⟩ := zdn hM hf (n := 0) rfl
  obtain ⟨hin, hcl⟩ := z_ix hi hj
  have hcell : H[a]? = some (vp_cell (zA X 4) _) := z_at hR hh
  obtain ⟨r', hr', cellV, g1, g2, g3, -⟩ := z_at hR hob
  have hK := zKs hG hW
  obtain ⟨kA, comp, k1, k2, k3, -⟩ := (hK.2 4 _ (zTys_at X (k := 4) (by decide))).2
  have h0 : ¬ i < 0 := fun q => hin (Or.inl q)
  have hlt : i.toNatClampNeg < n := by rw [hcl]; exact hj
  obtain ⟨hcls, c3, c4, w1, w2, w3⟩ := zcast_ok (args := args) hG hW hcs
  have hc3 : c3 = (zD X).1 ci := Option.some.inj (w1.symm.trans hcls.1)
  have hc4 : c4 = comp := Option.some.inj (w2.symm.trans k3)
  subst hc3 hc4
  obtain ⟨kC, hkC, -⟩ := hcls.2
  obtain ⟨kP, hkP⟩ := Vm.classAt_of_findClass k3
  refine W.aast hx hb hcell (fun q h => by cases h) (fun h => by cases h) k1 k2 rfl hkP ⟨h0, by show _ < (arrV _ _ _).slots.size; rw [arrV_size]; exact hlt⟩ g1 (fun q h => by rw [g3] at h; cases h) (by rw [g2]; exact hkC) (by rw [g2]; exact w3) rfl rfl d fun H1 e1 z1 oq => ?_
  rw [hcl] at e1 ⊢
  refine kk p ev s m args below meth c H1 _ ls E (hR.put (z_bs hR hh) (show H1[a]? = some (vp_cell _ _) from ?_) z1 oq) hn hk0 (z_lc hlo (z_bs hR hh)) hl
  rw [e1, vp_cell_q, vp_cell_q, arrV_store]
  congr 2
  funext q
  by_cases hq : q = j
  · subst hq
    simp [updV, va_up, va_rf]
  · simp [updV, va_up, hq]
theorem z_kast {a n b ci : Nat} {fs : List Value} {g : Nat → Option Nat} {i : Int32} {p0 nx t : Nat} {lv : Int32} (j : Nat) (hh : h.1 a = some (zBk X n g)) (hob : h.1 b = some (.inr (ci, fs))) (hcs : zcast ci "ShadowWard$Block" = true) (hf : zlk (zFt M) pc = some (p0, .aastore, nx, lv, t)) (hi : i.toInt = (j : Int)) (hj : j < n) (kk : Z X M f (zset h a (zBk X n (va_up g j (some b)))) nx L st Q) : Z X M f h pc L (.ref b :: .int i :: .ref a :: st) Q := by
  intro p ev s m args below meth c H locs ls E hR hn hk0 hlo hl
  obtain ⟨hG, hM, hx, hb, -, -, -, hown, hW, -⟩ := id E
  obtain ⟨d, rfl, -⟩ := zdn hM hf (n := 0) rfl
  obtain ⟨hin, hcl⟩ := z_ix hi hj
  have hcell : H[a]? = some (vp_cell (zA X 5) _) := z_at hR hh
  obtain ⟨r', hr', cellV, g1, g2, g3, -⟩ := z_at hR hob
  have hK := zKs hG hW
  obtain ⟨kA, comp, k1, k2, k3, -⟩ := (hK.2 5 _ (zTys_at X (k := 5) (by decide))).2
  have h0 : ¬ i < 0 := fun q => hin (Or.inl q)
  have hlt : i.toNatClampNeg < n := by rw [hcl]; exact hj
  obtain ⟨hcls, c3, c4, w1, w2, w3⟩ := zcast_ok (args := args) hG hW hcs
  have hc3 : c3 = (zD X).1 ci := Option.some.inj (w1.symm.trans hcls.1)
  have hc4 : c4 = comp := Option.some.inj (w2.symm.trans k3)
  subst hc3 hc4
  obtain ⟨kC, hkC, -⟩ := hcls.2
  obtain ⟨kP, hkP⟩ := Vm.classAt_of_findClass k3
  refine W.aast hx hb hcell (fun q h => by cases h) (fun h => by cases h) k1 k2 rfl hkP ⟨h0, by show _ < (arrV _ _ _).slots.size; rw [arrV_size]; exact hlt⟩ g1 (fun q h => by rw [g3] at h; cases h) (by rw [g2]; exact hkC) (by rw [g2]; exact w3) rfl rfl d fun H1 e1 z1 oq => ?_
  rw [hcl] at e1 ⊢
  refine kk p ev s m args below meth c H1 _ ls E (hR.put (z_bs hR hh) (show H1[a]? = some (vp_cell _ _) from ?_) z1 oq) hn hk0 (z_lc hlo (z_bs hR hh)) hl
  rw [e1, vp_cell_q, vp_cell_q, arrV_store]
  congr 2
  funext q
  by_cases hq : q = j
  · subst hq
    simp [updV, va_up, va_rf]
  · simp [updV, va_up, hq]
theorem z_alen {a : Nat} {x : vp_A} {k : Nat} {p0 nx t : Nat} {lv : Int32} (hk6 : k < 6) (hh : h.1 a = some (.inl (zA X k, x))) (hf : zlk (zFt M) pc = some (p0, .arraylength, nx, lv, t)) (kk : Z X M f h nx L (.int (nI x.1) :: st) Q) : Z X M f h pc L (.ref a :: st) Q := by
  intro p ev s m args below meth c H locs ls E hR hn hk0 hlo hl
  obtain ⟨hG, hM, hx, hb, -, -, -, hown, hW, -⟩ := id E
  obtain ⟨d, rfl, -⟩ := zdn hM hf (n := 0) rfl
  exact va_alen (D := zD X) (cl := vwCl) (ws := [(a, .inl (zA X k, x))]) hx hb (zKs hG hW) (hR.at hh) 0 k rfl (zTys_at X hk6) rfl d (kk p ev s m args below meth c H locs ls E hR hn hk0 hlo hl)
theorem z_cast {a ci : Nat} {fs : List Value} {p0 idx nx t : Nat} {lv : Int32} {nm : String} (hh : h.1 a = some (.inr (ci, fs))) (hf : zlk (zFt M) pc = some (p0, .checkcast idx, nx, lv, t)) (hr : zKL[t]? = some ((zNm M).cls, idx, nm)) (hcs : zcast ci nm = true) (kk : Z X M f h nx L (.ref a :: st) Q) : Z X M f h pc L (.ref a :: st) Q := by
  intro p ev s m args below meth c H locs ls E hR hn hk0 hlo hl
  obtain ⟨hG, hM, hx, hb, -, -, -, hown, hW, -⟩ := id E
  obtain ⟨d, rfl, -⟩ := zdn hM hf (n := 2) rfl
  obtain ⟨r', hr', cellV, g1, g2, g3, -⟩ := z_at hR hh
  obtain ⟨hcls, c3, c4, w1, w2, w3⟩ := zcast_ok (args := args) hG hW hcs
  intro T hT X9
  obtain ⟨vm', X', st9⟩ := X9.checkcastYes hx hown (zw hG hW (zKL_in hr) rfl) (by rw [hT]; exact g1) (by rw [g3]; rfl) w2 (by rw [g2]; have e9 : c3 = (zD X).1 ci := Option.some.inj (w1.symm.trans hcls.1); rw [← e9]; exact w3) (g := F0 m pc ls (.ref a :: st)) rfl rfl (by rw [hb]; exact d)
  obtain ⟨t9, a1, b1⟩ := kk p ev s m args below meth c H locs ls E hR hn hk0 hlo hl (T.setVm vm') hT X'
  exact ⟨t9, st9 t9 a1, b1⟩
theorem z_castN {p0 idx nx t : Nat} {lv : Int32} (hf : zlk (zFt M) pc = some (p0, .checkcast idx, nx, lv, t)) (kk : Z X M f h nx L (.null :: st) Q) : Z X M f h pc L (.null :: st) Q := by
  intro p ev s m args below meth c H locs ls E hR hn hk0 hlo hl
  obtain ⟨hG, hM, hx, hb, -, -, -, hown, hW, -⟩ := id E
  obtain ⟨d, rfl, -⟩ := zdn hM hf (n := 2) rfl
  exact lv_castN hx hb d (kk p ev s m args below meth c H locs ls E hR hn hk0 hlo hl)
theorem z_div {x y : Int32} {p0 nx t : Nat} {lv : Int32} (hf : zlk (zFt M) pc = some (p0, .idiv, nx, lv, t)) (hne : ¬ y = 0) (kk : Z X M f h nx L (.int (x / y) :: st) Q) : Z X M f h pc L (.int y :: .int x :: st) Q := by
  intro p ev s m args below meth c H locs ls E hR hn hk0 hlo hl
  obtain ⟨hG, hM, hx, hb, -, -, -, hown, hW, -⟩ := id E
  obtain ⟨d, rfl, -⟩ := zdn hM hf (n := 0) rfl
  exact lv_idiv hx hb d hne (kk p ev s m args below meth c H locs ls E hR hn hk0 hlo hl)
theorem z_rem {x y : Int32} {p0 nx t : Nat} {lv : Int32} (hf : zlk (zFt M) pc = some (p0, .irem, nx, lv, t)) (hne : ¬ y = 0) (kk : Z X M f h nx L (.int (x - x / y * y) :: st) Q) : Z X M f h pc L (.int y :: .int x :: st) Q := by
  intro p ev s m args below meth c H locs ls E hR hn hk0 hlo hl
  obtain ⟨hG, hM, hx, hb, -, -, -, hown, hW, -⟩ := id E
  obtain ⟨d, rfl, -⟩ := zdn hM hf (n := 0) rfl
  exact lv_irem hx hb d hne (kk p ev s m args below meth c H locs ls E hR hn hk0 hlo hl)
theorem z_lrem {x y : Int64} {p0 nx t : Nat} {lv : Int32} (hf : zlk (zFt M) pc = some (p0, .lrem, nx, lv, t)) (hne : ¬ y = 0) (kk : Z X M f h nx L (.long (x - x / y * y) :: st) Q) : Z X M f h pc L (.long y :: .long x :: st) Q := by
  intro p ev s m args below meth c H locs ls E hR hn hk0 hlo hl
  obtain ⟨hG, hM, hx, hb, -, -, -, hown, hW, -⟩ := id E
  obtain ⟨d, rfl, -⟩ := zdn hM hf (n := 0) rfl
  exact lv_lrem hx hb d hne (kk p ev s m args below meth c H locs ls E hR hn hk0 hlo hl)
theorem z_new {p0 idx nx t : Nat} {lv : Int32} (ci : Nat) {fs : List Value} (hci : ci < 13) (hf : zlk (zFt M) pc = some (p0, .new idx, nx, lv, t)) (hr : zKL[t]? = some ((zNm M).cls, idx, (zcl ci).1)) (hfs : ∀ j, j < (zcl ci).2.2.1 → defaultValue ((zcl ci).2.2.2 j) = vp_V fs j) (hlim : zLim X (znew h (.inr (ci, fs)) (zcl ci).2.2.1)) (kk : Z X M f (znew h (.inr (ci, fs)) (zcl ci).2.2.1) nx L (.ref h.2.1 :: st) Q) : Z X M f h pc L st Q := by
  intro p ev s m args below meth c H locs ls E hR hn hk0 hlo hl
  obtain ⟨hG, hM, hx, hb, -, -, -, hown, hW, -⟩ := id E
  obtain ⟨d, rfl, -⟩ := zdn hM hf (n := 2) rfl
  have hcl := zcl_ok ci hci
  have hts : ∀ w ∈ u_ws (zcl ci).1 (zcl ci).2.1 (zcl ci).2.2.1, w.before args s = true := fun w hw => zw hG hW (hcl.2.1 w hw) (zgl hw)
  have hKn := (zKs hG hW).1 ci _ hcl.1
  have l1 : h.2.1 + 1 ≤ zB X + 601024 := hlim.1
  have l2 : h.2.2 + (zcl ci).2.2.1 ≤ 7293000 := hlim.2
  have r1 := hR.1
  have r2 := hR.2.1
  refine W.newcK hx hb hown (zw hG hW (zKL_in hr) rfl) (zw hG hW (zcn ci hci).1 rfl) (zw hG hW (zcn ci hci).2 rfl) rfl d (by show _ ≤ zB X + 601024 - f.2.2.1; omega) (by show _ ≤ 7293000 - f.2.2.2; omega) hKn.2.1 hR.1 fun H1 kC hkC e1 z1 o1 => ?_
  have g9 := kk p ev s m args below meth c H1 locs ls E (hR.new _ (⟨_, hcl.1, (u_born (zcl ci).2.2.2 hts (fun w hw => hw) hKn hkC e1 hcl.2.2.1).to hfs⟩ : va_at (zD X) vwCl (h.2.1, .inr (ci, fs)) H1) (by omega) (fun q hq => o1 q (by omega)) hlim) (by show _ ≤ h.2.1 + 1; omega) (by show _ ≤ h.2.2 + (zcl ci).2.2.1; omega) hlo hl
  have e8 : h.2.1 - f.2.2.1 + 1 = (znew h (.inr (ci, fs)) (zcl ci).2.2.1).2.1 - f.2.2.1 := by show _ = h.2.1 + 1 - f.2.2.1; omega
  have e9 : h.2.2 - f.2.2.2 + (zcl ci).2.2.1 = (znew h (.inr (ci, fs)) (zcl ci).2.2.1).2.2 - f.2.2.2 := by show _ = h.2.2 + (zcl ci).2.2.1 - f.2.2.2; omega
  rw [e8, e9]
  exact g9
end ZH
end
section
/-! methods by contract: ZM; ends; calls -/
def zcode (M : zMI) : Jvm.Cond := match zHh M with
  | [] => .code (zNm M) (zCd M) (zNL M) (zRt M)
  | q :: r => .codeWith (zNm M) (zCd M) (zNL M) (zRt M) (q :: r)
def zMK (M : zMI) : Prop := zMOK M ∧ plainFor (zNm M) = true ∧ zcode M ∈ lw_tbl ∧ Jvm.Cond.initialized (zNm M).cls ∈ lw_tbl ∧ (zNm M).cls ≠ "java/lang/invoke/MethodHandle" ∧ (zNm M).cls ≠ "java/lang/invoke/VarHandle"
theorem zcode_good (M : zMI) : goodWord (zcode M) = true := by unfold zcode; split <;> rfl
theorem zcode_spec {M : zMI} {args : Array Value} {s : State} (h : (zcode M).before args s = true) : ∃ m meth c, s.methodNamed? (zNm M) = some m ∧ s.vm.method? m = some meth ∧ meth.code = some c ∧ c.code = zCd M ∧ c.maxLocals = zNL M ∧ c.exceptionTable.toList.map (fun h => (h.startPc, h.endPc, h.handlerPc, h.catchType)) = zHh M ∧ meth.sig.returnType = zRt M ∧ meth.locks = false ∧ parseMethodDescriptor (zNm M).desc = some meth.sig := by
  unfold zcode at h
  split at h
  · rename_i e
    obtain ⟨mk, hn⟩ := Cond.code_named h
    obtain ⟨meth, c, h1, h2, h3, h4, h5, h6, h7, h8⟩ := Cond.code_spec hn h
    refine ⟨mk, meth, c, hn, h1, h2, h3, h4, ?_, h5, h6, h8⟩
    rw [e]
    have h0 : c.exceptionTable.size = 0 := by simpa [Array.isEmpty] using h7
    have h9 : c.exceptionTable.toList = [] := List.eq_nil_of_length_eq_zero (by simpa using h0)
    rw [h9]
    rfl
  · rename_i q r e
    obtain ⟨mk, meth, c, hn, h1, h2, h3, h4, h5, h6, h7, h8⟩ := Cond.codeWith_spec h
    exact ⟨mk, meth, c, hn, h1, h2, h3, h4, by rw [e]; exact h5, h6, h7, h8⟩
def zTb : List Jvm.Cond := lw_tbl.filter goodWord
theorem zTb_in {w : Jvm.Cond} (h : w ∈ lw_tbl) (g : goodWord w = true) : w ∈ zTb := List.mem_filter.mpr ⟨h, g⟩
/-- the method, called with av over the heap h, comes to its end with Q -/
def ZM (X : zCx) (M : zMI) (fr lo : Nat) (av : List Value) (h : zHp) (Q : zRs → zHp → Prop) : Prop :=
  MetFree (zl X) (zNm M) (headSpec zTb (zRm X (fr, lo, h.2.1, h.2.2))) (fun a U => a = av.toArray ∧ (zs X).WarmedH U.vm ∧ zR X h U.heap) (fun _ _ _ _ _ => True) (fun _ st o t => zEnd X h.2.1 h.2.2 st o t Q)
def zarg : List Value → zLo
  | [] => []
  | .long x :: r => some (.long x) :: none :: zarg r
  | .double x :: r => some (.double x) :: none :: zarg r
  | v :: r => some v :: zarg r
def zpad : Nat → zLo
  | 0 => []
  | n + 1 => none :: zpad n
def zent (n : Nat) (av : List Value) : zLo := zarg av ++ zpad (n - (zarg av).length)
theorem zpad_len (n : Nat) : (zpad n).length = n := by induction n with
  | zero => rfl
  | succ n ih => simp [zpad, ih]
theorem zpad_get (n i : Nat) : zget (zpad n) i = none := by
  induction n generalizing i with
  | zero => rfl
  | succ n ih => cases i with
    | zero => rfl
    | succ i => exact ih i
theorem zarg_len (av : List Value) : (zarg av).length = (lg_sl av).length := by
  induction av with
  | nil => rfl
  | cons v r ih => cases v <;> simp_all [zarg, lg_sl, Value.category]
theorem zget_app (a b : zLo) (i : Nat) : zget (a ++ b) i = if i < a.length then zget a i else zget b (i - a.length) := by
  induction a generalizing i with
  | nil => simp
  | cons x r ih => cases i with
    | zero => simp [zget]
    | succ i => simp only [List.cons_append, zget, ih, List.length_cons, Nat.add_lt_add_iff_right, Nat.add_sub_add_right]
theorem zarg_in (av : List Value) (o i : Nat) (v : Value) (h : zget (zarg av) i = some v) : (o + i, v) ∈ lv_args o av := by
  induction av generalizing o i with
  | nil => simp [zarg, zget] at h
  | cons w r ih =>
    have two : ∀ (w : Value), w.category = 2 → zarg (w :: r) = some w :: none :: zarg r → zget (zarg (w :: r)) i = some v → (o + i, v) ∈ lv_args o (w :: r) := by
      intro w hw e h
      rw [e] at h
      unfold lv_args
      rw [if_pos hw]
      match i, h with
      | 0, h => cases h; exact List.mem_cons_self
      | 1, h => simp [zget] at h
      | i + 2, h =>
        have := ih (o + 2) i h
        rw [show o + 2 + i = o + (i + 2) by omega] at this
        exact List.mem_cons_of_mem _ this
    have one : ∀ (w : Value), ¬ w.category = 2 → zarg (w :: r) = some w :: zarg r → zget (zarg (w :: r)) i = some v → (o + i, v) ∈ lv_args o (w :: r) := by
      intro w hw e h
      rw [e] at h
      unfold lv_args
      rw [if_neg hw]
      match i, h with
      | 0, h => cases h; exact List.mem_cons_self
      | i + 1, h =>
        have := ih (o + 1) i h
        rw [show o + 1 + i = o + (i + 1) by omega] at this
        exact List.mem_cons_of_mem _ this
    cases w with
    | long x => exact two _ rfl rfl h
    | double x => exact two _ rfl rfl h
    | int x => exact one _ (by simp [Value.category]) rfl h
    | float x => exact one _ (by simp [Value.category]) rfl h
    | null => exact one _ (by simp [Value.category]) rfl h
    | ref x => exact one _ (by simp [Value.category]) rfl h
    | retAddr x => exact one _ (by simp [Value.category]) rfl h
theorem zent_ls (n : Nat) (av : List Value) (h : (zarg av).length ≤ n) : zLs ((lg_sl av ++ List.replicate (n - (lg_sl av).length) Slot.unset).toArray) n (zent n av) := by
  refine ⟨?_, lv_args 0 av, lv_entry av (by rw [← zarg_len]; exact h), fun i v hi => ?_⟩
  · unfold zent
    rw [List.length_append, zpad_len]
    omega
  · unfold zent at hi
    rw [zget_app] at hi
    split at hi
    · have := zarg_in av 0 i v hi
      rwa [Nat.zero_add] at this
    · rw [zpad_get] at hi
      cases hi
theorem z_rfv (r : Option Nat) : va_rf r = .null ∨ ∃ a, va_rf r = .ref a := by
  cases r with
  | none => exact Or.inl rfl
  | some a => exact Or.inr ⟨a, rfl⟩
section ZC
variable {X : zCx} {M : zMI} {f : zFr} {h : zHp} {pc : Nat} {L : zLo} {st : List Value} {Q : zRs → zHp → Prop}
theorem zm_of_z {fr lo : Nat} {av : List Value} {L0 : zLo} (G : zG X) (hK : zMK M) (hl : Nat.ble (zarg av).length (zNL M) = true) (hL : zfc (zent (zNL M) av) (fun L => L) = L0) (k : Z X M (fr, lo, h.2.1, h.2.2) h 0 L0 [] Q) : ZM X M fr lo av h Q := by
  obtain ⟨hM, hpl, hcd, hin, -, -⟩ := hK
  rw [zfc_eq] at hL
  subst hL
  have hcz : zcode M ∈ zTb := zTb_in hcd (zcode_good M)
  refine MetFree.of_bodySF (code := zCd M) (maxLocals := zNL M) (ret := zRt M) hpl ?_ ?_
  · intro args s m hp hn
    obtain ⟨m9, meth, c, g0, g1, g2, g3, g4, g5, g6, g7, g8⟩ := zcode_spec (atoms_spec (ws := zTb) hp _ hcz)
    cases hn.symm.trans g0
    exact ⟨meth, c, g1, g2, g3, g4, g6, g7⟩
  · intro p e s m args below meth c s₁ B hml hP _
    obtain ⟨rfl, hW, hR⟩ := hP
    obtain ⟨m9, meth9, c9, g0, g1, g2, g3, g4, g5, g6, g7, g8⟩ := zcode_spec (atoms_spec (ws := zTb) B.pre _ hcz)
    have e1 : m9 = m := Option.some.inj (g0.symm.trans B.named)
    subst e1
    have e2 : meth9 = meth := Option.some.inj (g1.symm.trans B.method)
    subst e2
    have e3 : c9 = c := Option.some.inj (g2.symm.trans (Stand.of_body B).code)
    subst e3
    have hh0 : s₁.heap = s.heap := by rw [B.state]; rfl
    have K := k p e s _ av.toArray below _ _ s.heap [] _ ⟨G, hM, B.exec, B.bytes, B.returns, B.notSynchronized, hml, findClass_of_methodNamed B.named, hW, hR.1, (name_of_methodNamed B.named B.method).1, g5⟩ hR (Nat.le_refl _) (Nat.le_refl _) (fun q hq => by cases hq) (zent_ls (zNL M) av (Nat.le_of_ble_eq_true hl))
    rw [Nat.sub_self, Nat.sub_self, ← lg_entry_eq] at K
    obtain ⟨t, a1, o, b1, b2, b3⟩ := K s₁ hh0 (Stand.of_body B)
    exact ⟨t, o, a1, b1, b2, b3⟩
theorem Wmono {p : Program} {l : Launch} {e : Env} {R : Room} {s : State} {m : MethodId} {args : Array Value} {below : List Frame} {meth : Method} {c : Code} {H : Heap} {locs : List Loc} {cells slots : Nat} {Q1 Q2 : State → Prop} {g : JFrame} (hq : ∀ t, Q1 t → Q2 t) (k : W p l e R s m args below meth c H locs cells slots Q1 g) : W p l e R s m args below meth c H locs cells slots Q2 g := fun T hT X => by
  obtain ⟨t, a, b⟩ := k T hT X
  exact ⟨t, a, hq t b⟩
theorem z_fin {s : State} {args : Array Value} {below : List Frame} {H : Heap} {v : Option Value} (hR : zR X h H) (hn : f.2.2.1 ≤ h.2.1) (hk : f.2.2.2 ≤ h.2.2) (hq : Q (.inl v) h) (t : State) (k : MQ below (fun _ _ o t => o = .returned v ∧ t.heap = H) args s (h.2.1 - f.2.2.1) (h.2.2 - f.2.2.2) (fun q => zB X ≤ q) t) : zF X f.2.2.1 f.2.2.2 below s Q t := by
  obtain ⟨o, b1, b2, ⟨rfl, b3⟩, L, ⟨-, b5, b6⟩, b7⟩ := k
  exact ⟨_, b1, b2, .inl v, h, rfl, hq, by rw [b3]; exact hR, hn, hk, b5, L, b6, b7⟩
theorem z_iret {v : Int32} {p0 nx t : Nat} {lv : Int32} (hf : zlk (zFt M) pc = some (p0, .ireturn, nx, lv, t)) (hrt : zRt M = some .int) (hq : Q (.inl (some (.int v))) h) : Z X M f h pc L [.int v] Q := by
  intro p ev s m args below meth c H locs ls E hR hn hk hlo hl
  obtain ⟨hG, hM, hx, hb, hr, hlk, -⟩ := id E
  obtain ⟨d, rfl, -⟩ := zdn hM hf (n := 0) rfl
  exact Wmono (z_fin hR hn hk hq) (W.iret (v := v) hx hb (hr.trans hrt) (fun t ht _ => ⟨rfl, ht⟩) hlo d hlk)
theorem z_zret {v : Int32} {p0 nx t : Nat} {lv : Int32} (hf : zlk (zFt M) pc = some (p0, .ireturn, nx, lv, t)) (hrt : zRt M = some .boolean) (hv : narrow .boolean (.int v) = .int v) (hq : Q (.inl (some (.int v))) h) : Z X M f h pc L [.int v] Q := by
  intro p ev s m args below meth c H locs ls E hR hn hk hlo hl
  obtain ⟨hG, hM, hx, hb, hr, hlk, -⟩ := id E
  obtain ⟨d, rfl, -⟩ := zdn hM hf (n := 0) rfl
  exact Wmono (z_fin hR hn hk hq) (W.zret (v := v) hx hb (hr.trans hrt) hv (fun t ht _ => ⟨rfl, ht⟩) hlo d hlk)
theorem z_lret {v : Int64} {p0 nx t : Nat} {lv : Int32} (hf : zlk (zFt M) pc = some (p0, .lreturn, nx, lv, t)) (hrt : zRt M = some .long) (hq : Q (.inl (some (.long v))) h) : Z X M f h pc L [.long v] Q := by
  intro p ev s m args below meth c H locs ls E hR hn hk hlo hl
  obtain ⟨hG, hM, hx, hb, hr, hlk, -⟩ := id E
  obtain ⟨d, rfl, -⟩ := zdn hM hf (n := 0) rfl
  exact Wmono (z_fin hR hn hk hq) (W.lret (v := v) hx hb (hr.trans hrt) (fun t ht _ => ⟨rfl, ht⟩) hlo d hlk)
theorem z_vret {p0 nx t : Nat} {lv : Int32} (hf : zlk (zFt M) pc = some (p0, .return_, nx, lv, t)) (hrt : zRt M = none) (hq : Q (.inl none) h) : Z X M f h pc L [] Q := by
  intro p ev s m args below meth c H locs ls E hR hn hk hlo hl
  obtain ⟨hG, hM, hx, hb, hr, hlk, -⟩ := id E
  obtain ⟨d, rfl, -⟩ := zdn hM hf (n := 0) rfl
  exact Wmono (z_fin hR hn hk hq) (W.vret hx hb (hr.trans hrt) (fun t ht _ => ⟨rfl, ht⟩) hlo d hlk)
theorem z_aret {r : Option Nat} {p0 nx t : Nat} {lv : Int32} {rt : FieldType} (hf : zlk (zFt M) pc = some (p0, .areturn, nx, lv, t)) (hrt : zRt M = some rt) (hro : (∃ n, rt = .object n) ∨ ∃ t, rt = .array t) (hq : Q (.inl (some (va_rf r))) h) : Z X M f h pc L [va_rf r] Q := by
  intro p ev s m args below meth c H locs ls E hR hn hk hlo hl
  obtain ⟨hG, hM, hx, hb, hr, hlk, -⟩ := id E
  obtain ⟨d, rfl, -⟩ := zdn hM hf (n := 0) rfl
  exact Wmono (z_fin hR hn hk hq) (W.aret (v := va_rf r) hx hb (hr.trans hrt) hro (z_rfv r) (fun t ht _ => ⟨rfl, ht⟩) hlo d hlk)
/-- from here on, with an exception of class E thrown at pc -/
def ZT (X : zCx) (M : zMI) (f : zFr) (h : zHp) (pc : Nat) (L : zLo) (E : String) (Q : zRs → zHp → Prop) : Prop :=
  ∀ (p : Program) (e : Env) (s : State) (m : MethodId) (args : Array Value) (below : List Frame) (meth : Method) (c : Code) (H : Heap) (locs : List Loc) (ls : Array Slot) (st : List Value) (q : Nat) (ce : Cell),
    zE X M f.2.2.1 p s m meth c → zR X h H → f.2.2.1 ≤ h.2.1 → f.2.2.2 ≤ h.2.2 → (∀ q ∈ locs, zB X ≤ q.base) → zLs ls (zNL M) L → H[q]? = some ce → ce.vm = .none → (zs X).vm.findClass E = some ce.cls →
    vx_W p (zl X) e (zRm X f) s m args below meth c H locs (h.2.1 - f.2.2.1) (h.2.2 - f.2.2.2) (zF X f.2.2.1 f.2.2.2 below s Q) (F0 m pc ls st) q
theorem zt_out {E : String} (hh : zHh M = []) (hq : Q (.inr E) h) : ZT X M f h pc L E Q := by
  intro p ev s m args below meth c H locs ls st q ce E9 hR hn hk hlo hl hc hv hcl T hT X9
  obtain ⟨hG, hM, hx, hb, hr, hlk, -, -, -, -, -, htab⟩ := E9
  rw [hh] at htab
  have h0 : c.exceptionTable.toList = [] := List.map_eq_nil_iff.mp htab
  obtain ⟨st1, hrun, hend, hW, hsm⟩ := X9.leaveThrown q (g := F0 m pc ls st) rfl rfl rfl (fun x hx => by rw [h0] at hx; cases hx) hlk
  have hh9 : (T.setFrames (.throwing q :: below)).heap = H := hT
  exact ⟨_, st1, .threw q, hrun, hend, .inr E, h, ⟨q, ce, rfl, by rw [hh9]; exact hc, hv, hcl⟩, hq, by rw [hh9]; exact hR, hn, hk, hW, locs, hsm, hlo⟩
end ZC
end
section
/-- the callee's end, seen by the caller -/
def zBk9 (X : zCx) (p : Program) (e : Env) (R : Room) (s : State) (m : MethodId) (sargs : Array Value) (below : List Frame) (meth : Method) (c : Code) (Ls : List Loc) (c0 s0 : Nat) (g : JFrame) (len : Nat) (h : zHp) (Q : zRs → zHp → Prop) (from9 : State) : Prop :=
  ∃ (r : zRs) (h' : zHp) (U' : State) (L : List Loc), Stand p (zl X) e R s m sargs below meth c U' (Ls ++ L) (c0 + (h'.2.1 - h.2.1)) (s0 + (h'.2.2 - h.2.2)) ∧ Q r h' ∧ zR X h' U'.heap ∧ h.2.1 ≤ h'.2.1 ∧ h.2.2 ≤ h'.2.2 ∧ (∀ q ∈ L, zB X ≤ q.base) ∧
    match r with
    | .inl v => Steps p.tables e below from9 (U'.setTop { g with pc := g.pc + len, stack := v.toList ++ g.stack })
    | .inr E => ∃ (q : Nat) (ce : Cell), U'.heap[q]? = some ce ∧ ce.vm = .none ∧ (zs X).vm.findClass E = some ce.cls ∧ Steps p.tables e below from9 ((U'.setTop g).pushFrame (.throwing q))
theorem z_back {X : zCx} {M' : zMI} {fr lo : Nat} {av : List Value} {h : zHp} {Q' : zRs → zHp → Prop} (hM : ZM X M' fr lo av h Q') (G : zG X) (hK : zMK M') {p : Program} {e : Env} {R : Room} {s : State} {m : MethodId} {sargs : Array Value} {below : List Frame} {meth : Method} {c : Code} {U : State} {Ls : List Loc} {c0 s0 W9 : Nat}
    (X0 : Stand p (zl X) e R s m sargs below meth c U Ls c0 s0) (hW : (zs X).WarmedH U.vm) (hR : zR X h U.heap) (hframes : fr + 1 ≤ R.frames) (hlocals : W9 + (zNL M' + 11) + lo ≤ R.locals) (hc : c0 + (zB X + 601024 - h.2.1) ≤ R.cells) (hs : s0 + (7293000 - h.2.2) ≤ R.slots)
    {g : JFrame} (hg : g.method = m) (hsize : g.locals.size = c.maxLocals) {ig : Instr} {len : Nat} (hdg : decode c.code g.pc = .ok (ig, len)) (hW9 : 2 * g.monitorRoom + (g.stack.map fun v => v.category).sum ≤ W9) {mk : MethodId} (hn : U.methodNamed? (zNm M') = some mk) :
    zBk9 X p e R s m sargs below meth c Ls c0 s0 g len h Q' (doInvoke e (U.setTop g) [] mk av.toArray).1 := by
  have hpre : (headSpec zTb (zRm X (fr, lo, h.2.1, h.2.2))).pre.before av.toArray U = true := atoms_intro fun w hw => zw G hW (List.mem_filter.mp hw).1 (List.mem_filter.mp hw).2
  obtain ⟨m9, methY, cY, g0, hmY, hcY, -, hlY, -, -, -, -⟩ := zcode_spec (zw G (args := av.toArray) hW hK.2.2.1 (zcode_good M'))
  cases hn.symm.trans g0
  obtain ⟨kY, hkY, -⟩ := className_of_methodNamed hn
  have hinitY : kY.init = .initialized := Cond.initialized_spec (findClass_of_methodNamed hn) hkY (zw G (args := av.toArray) hW hK.2.2.2.1 rfl)
  have h9 : At U g.method c below := by rw [hg]; exact X0.here
  have happ : (headSpec zTb (zRm X (fr, lo, h.2.1, h.2.2))).appliesLoose (zNm M') e.platform (U.calling g mk av.toArray) = true :=
    Spec.appliesLoose_calling (g := g) h9 hdg hn hkY hinitY
      (X0.room_calling (g := g) (R' := zRm X (fr, lo, h.2.1, h.2.2)) hsize hmY hcY hframes (by rw [hlY]; show _ + lo ≤ _; omega) hc hs) hpre
  obtain ⟨mid, hmid⟩ := h9.above
  have hfr : (U.setTop g).frames = (.java g :: mid) ++ below := by rw [State.frames_setTop' g h9.top, hmid]; rfl
  obtain ⟨o, s₂, hsteps, -, hend, hq⟩ := Steps.callFree hM p X0.admits X0.cas X0.clock (acts := []) hfr happ ⟨rfl, hW, hR⟩ trivial
  rw [State.frames_setTop' g h9.top] at hend
  obtain ⟨g₀, hg0⟩ := Option.isSome_iff_exists.mp h9.top
  obtain ⟨rr, hr⟩ := State.topJava?_eq_some.mp hg0
  have hr' : (({ U with heap := s₂.heap, slotsUsed := s₂.slotsUsed } : State).setVm s₂.vm).frames = .java g₀ :: rr := hr
  have hq' : zEnd X h.2.1 h.2.2 (U.calling g mk av.toArray) o s₂ Q' := hq
  obtain ⟨r, h', hO, hQ, hR', hl1, hl2, hW₂, L, hsm, hLb⟩ := hq'
  obtain ⟨e2, q2, q3, q4, q5, q6⟩ := id hsm
  have e3 : s₂ = ({ (U.calling g mk av.toArray).setFrames s₂.frames with heap := s₂.heap, slotsUsed := s₂.slotsUsed } : State).setVm s₂.vm := by
    have : s₂ = ({ s₂ with vm := (U.calling g mk av.toArray).vm } : State).setVm s₂.vm := rfl
    rw [e2] at this
    exact this
  have hW' : U.WarmedH s₂.vm := hW₂
  have hsame : U.sameButNew ({ U with heap := s₂.heap, slotsUsed := s₂.slotsUsed } : State) L (h'.2.1 - h.2.1) (h'.2.2 - h.2.2) := by
    refine ⟨?_, q2, q3, q4, q5, q6⟩
    obtain ⟨t, ht, -⟩ := State.frames_cons hr
    show ({ U with heap := s₂.heap, slotsUsed := s₂.slotsUsed } : State) = { U.setFrames U.frames with heap := s₂.heap, slotsUsed := s₂.slotsUsed }
    rw [State.setFrames_self ht]
  have hcc := hg
  have hst : Stand p (zl X) e R s m sargs below meth c (({ U with heap := s₂.heap, slotsUsed := s₂.slotsUsed } : State).setVm s₂.vm) (Ls ++ L) (c0 + (h'.2.1 - h.2.1)) (s0 + (h'.2.2 - h.2.2)) :=
    ⟨X0.admits, X0.cas, X0.clock, X0.frames, X0.room, X0.hears, X0.method, X0.code, (X0.here.setHeapUsed s₂.heap s₂.slotsUsed).setVm hW'.alike, X0.tail, State.WarmedH.trans X0.warmed hW', X0.limits, X0.bytes, X0.same.trans (hsame.setVm s.vm)⟩
  refine ⟨r, h', _, L, hst, hQ, hR', hl1, hl2, hLb, ?_⟩
  cases r with
  | inl v =>
    have hv : o = .returned v := hO
    subst hv
    obtain ⟨c₂, i₂, len₂, hc₂, hd₂, hf₂⟩ := hend
    have hcc : c₂ = c := by
      have h1 : s₂.code? g.method = U.code? g.method := by
        rw [State.code?_eq, State.code?_eq, hW'.alike.method?]
      exact Option.some.inj (hc₂.symm.trans (h1.trans h9.code))
    subst hcc
    have hlen : len₂ = len := by rw [hdg] at hd₂; cases hd₂; rfl
    subst hlen
    have hs₂ : s₂ = (({ U with heap := s₂.heap, slotsUsed := s₂.slotsUsed } : State).setVm s₂.vm).setTop { g with pc := g.pc + len₂, stack := v.toList ++ g.stack } := by
      refine e3.trans ?_
      rw [hf₂, State.calling_eq h9.top, State.setFrames_setFrames, State.setTop_of_frames _ hr', hr]
      rfl
    show Steps p.tables e below _ ((({ U with heap := s₂.heap, slotsUsed := s₂.slotsUsed } : State).setVm s₂.vm).setTop { g with pc := g.pc + len₂, stack := v.toList ++ g.stack })
    rw [← hs₂]
    exact hsteps
  | inr E =>
    obtain ⟨q, ce, hoq, hce, hcv, hcl⟩ := hO
    subst hoq
    have hf₂ : s₂.frames = .throwing q :: .java g :: U.frames.tail := hend
    have hs₂ : s₂ = ((({ U with heap := s₂.heap, slotsUsed := s₂.slotsUsed } : State).setVm s₂.vm).setTop g).pushFrame (.throwing q) := by
      refine e3.trans ?_
      rw [hf₂, State.calling_eq h9.top, State.setFrames_setFrames, State.pushFrame, State.frames_setTop _ hr', State.setTop_of_frames _ hr', State.setFrames_setFrames, hr]
      rfl
    refine ⟨q, ce, hce, hcv, hcl, ?_⟩
    show Steps p.tables e below _ (((({ U with heap := s₂.heap, slotsUsed := s₂.slotsUsed } : State).setVm s₂.vm).setTop g).pushFrame (.throwing q))
    rw [← hs₂]
    exact hsteps
def zap : List Value → List Value → List Value
  | [], st => st
  | a :: r, st => zap r (a :: st)
theorem zap_eq (As st : List Value) : zap As st = As.reverse ++ st := by
  induction As generalizing st with
  | nil => rfl
  | cons a r ih => simp [zap, ih]
def zcat (st : List Value) : Nat := (st.map fun v => v.category).sum
section ZV
variable {X : zCx} {M : zMI} {f : zFr} {h : zHp} {pc : Nat} {L : zLo} {Q : zRs → zHp → Prop}
/-- behind a call: what all kinds of call have in common -/
theorem z_goon {M' : zMI} {fr lo : Nat} {av st : List Value} {Q' : zRs → zHp → Prop} (hM : ZM X M' fr lo av h Q') (hK : zMK M') (hfr : Nat.ble (fr + 1) f.1 = true) (hlc : Nat.ble (8 + (zNL M' + 11) + lo) f.2.1 = true) (hw : Nat.ble (zcat st) 8 = true)
    (kk : ∀ v h', Q' (.inl v) h' → Z X M f h' (pc + 3) L (v.toList ++ st) Q) (kx : ∀ E h', Q' (.inr E) h' → ZT X M f h' pc L E Q)
    {p : Program} {ev : Env} {s : State} {m : MethodId} {args : Array Value} {below : List Frame} {meth : Method} {c : Code} {H : Heap} {locs : List Loc} {ls : Array Slot} {stk : List Value} (E : zE X M f.2.2.1 p s m meth c) (hR : zR X h H) (hn : f.2.2.1 ≤ h.2.1) (hk0 : f.2.2.2 ≤ h.2.2) (hlo : ∀ q ∈ locs, zB X ≤ q.base) (hl : zLs ls (zNL M) L)
    {T : State} (hT : T.heap = H) {vm₁ : Vm} (X₁ : Stand p (zl X) ev (zRm X f) s m args below meth c (T.setVm vm₁) locs (h.2.1 - f.2.2.1) (h.2.2 - f.2.2.2)) {mk : MethodId} (hnm : (T.setVm vm₁).methodNamed? (zNm M') = some mk) {ig : Instr} (hdg : decode (zCd M) pc = .ok (ig, 3))
    (hst : ∀ target, Steps p.tables ev below (doInvoke ev ((T.setVm vm₁).setTop (F0 m pc ls st)) [] mk av.toArray).1 target → Steps p.tables ev below (T.setTop (F0 m pc ls stk)) target) :
    ∃ t, Steps p.tables ev below (T.setTop (F0 m pc ls stk)) t ∧ zF X f.2.2.1 f.2.2.2 below s Q t := by
  obtain ⟨hG, hMo, hx, hb, -, -, hml, -, hW, -⟩ := id E
  have l1 := hR.2.2.2.2.1
  have l2 := hR.2.2.2.2.2
  obtain ⟨r, h', U', L9, X', hQ, hR', hm1, hm2, hLb, hr⟩ := z_back (W9 := 8) (g := F0 m pc ls st) (len := 3) (ig := ig) hM hG hK X₁ (State.WarmedH.trans hW X₁.warmed) (by show zR X h T.heap; rw [hT]; exact hR) (Nat.le_of_ble_eq_true hfr) (Nat.le_of_ble_eq_true hlc) (by show _ ≤ zB X + 601024 - f.2.2.1; omega) (by show _ ≤ 7293000 - f.2.2.2; omega) rfl (by show ls.size = _; rw [hml]; obtain ⟨-, l, q1, -⟩ := hl; exact q1.1) (by rw [hb]; exact hdg) (by show 2 * 0 + (st.map fun v => v.category).sum ≤ 8; have := Nat.le_of_ble_eq_true hw; unfold zcat at this; omega) hnm
  have e8 : h.2.1 - f.2.2.1 + (h'.2.1 - h.2.1) = h'.2.1 - f.2.2.1 := by omega
  have e9 : h.2.2 - f.2.2.2 + (h'.2.2 - h.2.2) = h'.2.2 - f.2.2.2 := by omega
  rw [e8, e9] at X'
  have hlo' : ∀ q ∈ locs ++ L9, zB X ≤ q.base := fun q hq => (List.mem_append.mp hq).elim (hlo q) (hLb q)
  cases r with
  | inl v =>
    obtain ⟨t, a1, b1⟩ := kk v h' hQ p ev s m args below meth c U'.heap (locs ++ L9) ls E hR' (by omega) (by omega) hlo' hl U' rfl X'
    exact ⟨t, hst _ (hr.trans a1), b1⟩
  | inr E9 =>
    obtain ⟨q, ce, hce, hcv, hcl, hs⟩ := hr
    obtain ⟨t, a1, b1⟩ := kx E9 h' hQ p ev s m args below meth c U'.heap (locs ++ L9) ls st q ce E hR' (by omega) (by omega) hlo' hl hce hcv hcl U' rfl X'
    exact ⟨t, hst _ (hs.trans a1), b1⟩
/-- invokestatic -/
theorem z_invS {M' : zMI} {fr lo : Nat} {As st stk : List Value} {Q' : zRs → zHp → Prop} {p0 idx nx t : Nat} {lv : Int32} (hM : ZM X M' fr lo As h Q') (hK : zMK M') (hsa : Jvm.Cond.static (zNm M') ∈ lw_tbl) (hf : zlk (zFt M) pc = some (p0, .invokestatic idx, nx, lv, t)) (hr : zML[t]? = some ((zNm M).cls, idx, zNm M')) (hln : (parseMethodDescriptor (zNm M').desc).map (fun d => d.parameters.length) = some As.length) (hfr : Nat.ble (fr + 1) f.1 = true) (hlc : Nat.ble (8 + (zNL M' + 11) + lo) f.2.1 = true) (hstk : zap As st = stk) (hw : Nat.ble (zcat st) 8 = true)
    (kk : ∀ v h', Q' (.inl v) h' → Z X M f h' nx L (v.toList ++ st) Q) (kx : ∀ E h', Q' (.inr E) h' → ZT X M f h' pc L E Q) : Z X M f h pc L stk Q := by
  intro p ev s m args below meth c H locs ls E hR hn hk0 hlo hl T hT X0
  obtain ⟨hG, hMo, hx, hb, -, -, hml, hown, hW, -⟩ := id E
  obtain ⟨d, rfl, -⟩ := zdn hMo hf (n := 2) rfl
  obtain ⟨mk, methM, cM, hnamed, hmethM, -, -, -, -, -, -, hsigM⟩ := zcode_spec (zw hG (args := args) hW hK.2.2.1 (zcode_good M'))
  have hstatic : methM.isStatic = true := Cond.static_spec hnamed hmethM (zw hG (args := args) hW hsa rfl)
  obtain ⟨kP, hkP, -⟩ := className_of_methodNamed hnamed
  have hinitP : kP.init = .initialized := Cond.initialized_spec (findClass_of_methodNamed hnamed) hkP (zw hG (args := args) hW hK.2.2.2.1 rfl)
  have hlen : As.length = methM.sig.parameters.length := by rw [hsigM] at hln; exact (Option.some.inj hln).symm
  rw [zap_eq] at hstk
  obtain ⟨vm₁, X₁, hstep₁⟩ := X0.invokestatic hx hown (zw hG hW (zML_in hr) rfl) hnamed hmethM hstatic hkP hinitP hK.2.2.2.2 (g := F0 m pc ls stk) rfl (argsL := As) (rest := st) hlen hstk.symm (by rw [hb]; exact d)
  exact z_goon hM hK hfr hlc hw kk kx E hR hn hk0 hlo hl hT X₁ (X₁.named hnamed) d (fun target hh => hstep₁ _ fun acts => by rw [doInvoke_state]; exact hh)
/-- invokestatic across the nest -/
theorem z_invN {M' : zMI} {fr lo : Nat} {As st stk : List Value} {Q' : zRs → zHp → Prop} {p0 idx nx t : Nat} {lv : Int32} {host : String} (hM : ZM X M' fr lo As h Q') (hK : zMK M') (hsa : Jvm.Cond.static (zNm M') ∈ lw_tbl) (hf : zlk (zFt M) pc = some (p0, .invokestatic idx, nx, lv, t)) (hr : zMN[t]? = some ((zNm M).cls, idx, zNm M', host)) (hln : (parseMethodDescriptor (zNm M').desc).map (fun d => d.parameters.length) = some As.length) (hfr : Nat.ble (fr + 1) f.1 = true) (hlc : Nat.ble (8 + (zNL M' + 11) + lo) f.2.1 = true) (hstk : zap As st = stk) (hw : Nat.ble (zcat st) 8 = true)
    (kk : ∀ v h', Q' (.inl v) h' → Z X M f h' nx L (v.toList ++ st) Q) (kx : ∀ E h', Q' (.inr E) h' → ZT X M f h' pc L E Q) : Z X M f h pc L stk Q := by
  intro p ev s m args below meth c H locs ls E hR hn hk0 hlo hl T hT X0
  obtain ⟨hG, hMo, hx, hb, -, -, hml, hown, hW, -⟩ := id E
  obtain ⟨d, rfl, -⟩ := zdn hMo hf (n := 2) rfl
  obtain ⟨mk, methM, cM, hnamed, hmethM, -, -, -, -, -, -, hsigM⟩ := zcode_spec (zw hG (args := args) hW hK.2.2.1 (zcode_good M'))
  have hstatic : methM.isStatic = true := Cond.static_spec hnamed hmethM (zw hG (args := args) hW hsa rfl)
  obtain ⟨kP, hkP, -⟩ := className_of_methodNamed hnamed
  have hinitP : kP.init = .initialized := Cond.initialized_spec (findClass_of_methodNamed hnamed) hkP (zw hG (args := args) hW hK.2.2.2.1 rfl)
  have hlen : As.length = methM.sig.parameters.length := by rw [hsigM] at hln; exact (Option.some.inj hln).symm
  have hlink : va_Nw (.methodLinkNest (zNm M).cls idx (zNm M') host) s := va_Nw.warmM hW (va_Nw.of rfl (hG.1 _ (zMN_in hr)))
  rw [zap_eq] at hstk
  obtain ⟨vm₁, X₁, hstep₁⟩ := X0.invokestaticNest hx hown (va_Nw.use rfl hlink) hnamed hmethM hstatic hkP hinitP hK.2.2.2.2 (g := F0 m pc ls stk) rfl (argsL := As) (rest := st) hlen hstk.symm (by rw [hb]; exact d)
  exact z_goon hM hK hfr hlc hw kk kx E hR hn hk0 hlo hl hT X₁ (X₁.named hnamed) d (fun target hh => hstep₁ _ fun acts => by rw [doInvoke_state]; exact hh)
/-- invokevirtual of a method that the receiver's class ci selects itself -/
theorem z_invV {M' : zMI} {fr lo b ci : Nat} {fs As st stk : List Value} {Q' : zRs → zHp → Prop} {p0 idx nx t : Nat} {lv : Int32} (hM : ZM X M' fr lo (.ref b :: As) h Q') (hK : zMK M') (hob : h.1 b = some (.inr (ci, fs))) (hci : ci < 13) (hin : Jvm.Cond.instanceMethod (zNm M') ∈ lw_tbl) (hse : Jvm.Cond.selects (zcl ci).1 (zNm M') (zNm M') ∈ lw_tbl) (hf : zlk (zFt M) pc = some (p0, .invokevirtual idx, nx, lv, t)) (hr : zML[t]? = some ((zNm M).cls, idx, zNm M')) (hln : (parseMethodDescriptor (zNm M').desc).map (fun d => d.parameters.length) = some As.length) (hfr : Nat.ble (fr + 1) f.1 = true) (hlc : Nat.ble (8 + (zNL M' + 11) + lo) f.2.1 = true) (hstk : zap (.ref b :: As) st = stk) (hw : Nat.ble (zcat st) 8 = true)
    (kk : ∀ v h', Q' (.inl v) h' → Z X M f h' nx L (v.toList ++ st) Q) (kx : ∀ E h', Q' (.inr E) h' → ZT X M f h' pc L E Q) : Z X M f h pc L stk Q := by
  intro p ev s m args below meth c H locs ls E hR hn hk0 hlo hl T hT X0
  obtain ⟨hG, hMo, hx, hb, -, -, hml, hown, hW, -⟩ := id E
  obtain ⟨d, rfl, -⟩ := zdn hMo hf (n := 2) rfl
  obtain ⟨mk, methM, hnamed, hmethM, hstM, habM⟩ := Cond.instanceMethod_spec (zw hG (args := args) hW hin rfl)
  obtain ⟨mk', methM', cM, hnamed', hmethM', -, -, -, -, -, -, hsigM⟩ := zcode_spec (zw hG (args := args) hW hK.2.2.1 (zcode_good M'))
  cases hnamed.symm.trans hnamed'
  cases hmethM.symm.trans hmethM'
  obtain ⟨c2, r2, m2, q1, q2, q3, q4, kP, hkP, hkPi⟩ := Cond.selects_spec (zw hG (args := args) hW hse rfl)
  obtain ⟨r', hr', cellB, g1, g2, g3, -⟩ := z_at hR hob
  have hcls : s.vm.findClass (zcl ci).1 = some cellB.cls := by
    rw [g2]
    exact ((zKs hG hW).1 ci _ (zcl_ok ci hci).1).2.1
  cases hcls.symm.trans q1
  cases (State.methodFound?_of_named hnamed hK.2.2.2.2).symm.trans q2
  cases hnamed.symm.trans q3
  have hselP : selectMethod ev.platform s.vm cellB.cls mk = .method mk := by rw [Launch.admits_selectMethod X0.admits]; exact q4
  have hlen : As.length = methM.sig.parameters.length := by rw [hsigM] at hln; exact (Option.some.inj hln).symm
  rw [zap_eq] at hstk
  obtain ⟨vm₁, X₁, hstep₁⟩ := X0.invokevirtual hx hown (zw hG hW (zML_in hr) rfl) hnamed hmethM hstM hkP hkPi hK.2.2.2.2 (a := b) (cell := cellB) (by rw [hT]; exact g1)
    (fun z hz => by rw [g3] at hz; cases hz) hselP hmethM habM hkP hkPi (g := F0 m pc ls stk) rfl (argsL := As) (rest := st) hlen (by rw [← hstk]; simp) (by rw [hb]; exact d)
  exact z_goon hM hK hfr hlc hw kk kx E hR hn hk0 hlo hl hT X₁ (X₁.named hnamed) d (fun target hh => hstep₁ _ fun acts => by rw [doInvoke_state]; exact hh)
/-- invokespecial of a constructor -/
theorem z_invI {M' : zMI} {fr lo b : Nat} {As st stk : List Value} {Q' : zRs → zHp → Prop} {p0 idx nx t : Nat} {lv : Int32} (hM : ZM X M' fr lo (.ref b :: As) h Q') (hK : zMK M') (hhh : zHh M' = []) (hrn : zRt M' = none) (hnm : (zNm M').name = "<init>") (hin : Jvm.Cond.instanceMethod (zNm M') ∈ lw_tbl) (hf : zlk (zFt M) pc = some (p0, .invokespecial idx, nx, lv, t)) (hr : zML[t]? = some ((zNm M).cls, idx, zNm M')) (hln : (parseMethodDescriptor (zNm M').desc).map (fun d => d.parameters.length) = some As.length) (hfr : Nat.ble (fr + 1) f.1 = true) (hlc : Nat.ble (8 + (zNL M' + 11) + lo) f.2.1 = true) (hstk : zap (.ref b :: As) st = stk) (hw : Nat.ble (zcat st) 8 = true)
    (kk : ∀ v h', Q' (.inl v) h' → Z X M f h' nx L (v.toList ++ st) Q) (kx : ∀ E h', Q' (.inr E) h' → ZT X M f h' pc L E Q) : Z X M f h pc L stk Q := by
  intro p ev s m args below meth c H locs ls E hR hn hk0 hlo hl T hT X0
  obtain ⟨hG, hMo, hx, hb, -, -, hml, hown, hW, -⟩ := id E
  obtain ⟨d, rfl, -⟩ := zdn hMo hf (n := 2) rfl
  have hpl : ev.platform.magicAccessors = ({} : Platform).magicAccessors := by rw [X0.admits.platform]
  have hcw := zw hG (args := args) hW hK.2.2.1 (zcode_good M')
  have hcw2 : (Jvm.Cond.code (zNm M') (zCd M') (zNL M') none).before args s = true := by
    unfold zcode at hcw
    rw [hhh, hrn] at hcw
    exact hcw
  rw [zap_eq] at hstk
  obtain ⟨mk, methM, cM, kP, vm₁, hnamed, hmethM, hcodeM, -, hlocalsM, -, hkP, -, hW₁, hstep₁⟩ := Steps.initColdArgs (tb := p.tables) (e := ev) X0.here hx X0.warmed hpl hown hnm hK.2.2.2.2 (zw hG (args := args) hW (zML_in hr) rfl) (zw hG (args := args) hW hin rfl) hcw2 (f := F0 m pc ls stk) rfl (argsL := As) (rest := st) (a := b) (fun sig hs9 => by rw [hs9] at hln; exact (Option.some.inj hln).symm) (by show stk = _; rw [← hstk]; simp) (by rw [hb]; exact d)
  have X₁ := X0.noted hW₁
  exact z_goon hM hK hfr hlc hw kk kx E hR hn hk0 hlo hl hT X₁ (X₁.named hnamed) d (fun target hh => hstep₁ _ fun acts => by rw [doInvoke_state]; exact hh)
/-- the constructor of Object -/
theorem z_obj {a : Nat} {st : List Value} {p0 idx nx t : Nat} {lv : Int32} (hf : zlk (zFt M) pc = some (p0, .invokespecial idx, nx, lv, t)) (hr : zML[t]? = some ((zNm M).cls, idx, Lib.objectInit)) (hi : Jvm.Cond.instanceMethod Lib.objectInit ∈ lw_tbl) (hcd : Jvm.Cond.code Lib.objectInit ⟨#[0xb1]⟩ 1 none ∈ lw_tbl) (hfr : Nat.ble 1 f.1 = true) (hlc : Nat.ble 20 f.2.1 = true) (hw : Nat.ble (zcat st) 8 = true) (kk : Z X M f h nx L st Q) : Z X M f h pc L (.ref a :: st) Q := by
  intro p ev s m args below meth c H locs ls E hR hn hk0 hlo hl
  obtain ⟨hG, hMo, hx, hb, -, -, hml, hown, hW, -⟩ := id E
  obtain ⟨d, rfl, -⟩ := zdn hMo hf (n := 2) rfl
  refine W.objInit hx hb hown (zw hG hW (zML_in hr) rfl) (zw hG hW hi rfl) (zw hG hW hcd rfl) rfl (by show ls.size = _; rw [hml]; obtain ⟨-, l, q1, -⟩ := hl; exact q1.1) rfl d (Nat.le_of_ble_eq_true hfr) ?_ (kk p ev s m args below meth c H locs ls E hR hn hk0 hlo hl)
  have h1 := Nat.le_of_ble_eq_true hw
  have h2 := Nat.le_of_ble_eq_true hlc
  unfold zcat at h1
  show 2 * 0 + _ + 12 ≤ f.2.1
  omega
end ZV
end
section
def CJ6_compare_7cf53_0 : List zEn := [(0, .iload_n 0, 1, 0, 0), (1, .iload_n 1, 2, 0, 0), (2, .if_icmp .ge 7, 5, 0, 9), (5, .iconst (-1), 6, (-1), 0), (6, .goto 13, 9, 0, 19), (9, .iload_n 0, 10, 0, 0), (10, .iload_n 1, 11, 0, 0), (11, .if_icmp .ne 7, 14, 0, 18), (14, .iconst 0, 15, 0, 0), (15, .goto 4, 18, 0, 19), (18, .iconst 1, 19, 1, 0), (19, .ireturn, 20, 0, 0)]
def MJ6_compare_7cf53 : zMI := (yJ6_compare_7cf53, cJ6_compare_7cf53, 2, (some .int), [(99999, CJ6_compare_7cf53_0)], [])
theorem DJ6_compare_7cf53_0 : CJ6_compare_7cf53_0.all (zchk cJ6_compare_7cf53) = true := by decide +kernel
theorem OJ6_compare_7cf53 : zMOK MJ6_compare_7cf53 := by
  intro q hq e he
  simp only [MJ6_compare_7cf53, zFt, List.mem_cons, List.not_mem_nil, or_false] at hq
  rcases hq with rfl
  · exact List.all_eq_true.mp DJ6_compare_7cf53_0 e he
theorem KJ6_compare_7cf53 : zMK MJ6_compare_7cf53 := ⟨OJ6_compare_7cf53, by decide +kernel, z_in (List.mem_of_getElem? (i := 300) (by decide +kernel)), z_in (List.mem_of_getElem? (i := 27) (by decide +kernel)), by decide +kernel, by decide +kernel⟩
theorem SJ6_compare_7cf53 : Jvm.Cond.static yJ6_compare_7cf53 ∈ lw_tbl := z_in (List.mem_of_getElem? (i := 299) (by decide +kernel))
def CJ9_abs_067f4_0 : List zEn := [(0, .lload_n 0, 1, 0, 0), (1, .lconst 0, 2, 0, 0), (2, .lcmp, 3, 0, 0), (3, .ifCond .ge 8, 6, 0, 11), (6, .lload_n 0, 7, 0, 0), (7, .lneg, 8, 0, 0), (8, .goto 4, 11, 0, 12), (11, .lload_n 0, 12, 0, 0), (12, .lreturn, 13, 0, 0)]
def MJ9_abs_067f4 : zMI := (yJ9_abs_067f4, cJ9_abs_067f4, 2, (some .long), [(99999, CJ9_abs_067f4_0)], [])
theorem DJ9_abs_067f4_0 : CJ9_abs_067f4_0.all (zchk cJ9_abs_067f4) = true := by decide +kernel
theorem OJ9_abs_067f4 : zMOK MJ9_abs_067f4 := by
  intro q hq e he
  simp only [MJ9_abs_067f4, zFt, List.mem_cons, List.not_mem_nil, or_false] at hq
  rcases hq with rfl
  · exact List.all_eq_true.mp DJ9_abs_067f4_0 e he
theorem KJ9_abs_067f4 : zMK MJ9_abs_067f4 := ⟨OJ9_abs_067f4, by decide +kernel, z_in (List.mem_of_getElem? (i := 515) (by decide +kernel)), z_in (List.mem_of_getElem? (i := 3) (by decide +kernel)), by decide +kernel, by decide +kernel⟩
theorem SJ9_abs_067f4 : Jvm.Cond.static yJ9_abs_067f4 ∈ lw_tbl := z_in (List.mem_of_getElem? (i := 514) (by decide +kernel))
def CJ9_max_7cf53_0 : List zEn := [(0, .iload_n 0, 1, 0, 0), (1, .iload_n 1, 2, 0, 0), (2, .if_icmp .lt 7, 5, 0, 9), (5, .iload_n 0, 6, 0, 0), (6, .goto 4, 9, 0, 10), (9, .iload_n 1, 10, 0, 0), (10, .ireturn, 11, 0, 0)]
def MJ9_max_7cf53 : zMI := (yJ9_max_7cf53, cJ9_max_7cf53, 2, (some .int), [(99999, CJ9_max_7cf53_0)], [])
theorem DJ9_max_7cf53_0 : CJ9_max_7cf53_0.all (zchk cJ9_max_7cf53) = true := by decide +kernel
theorem OJ9_max_7cf53 : zMOK MJ9_max_7cf53 := by
  intro q hq e he
  simp only [MJ9_max_7cf53, zFt, List.mem_cons, List.not_mem_nil, or_false] at hq
  rcases hq with rfl
  · exact List.all_eq_true.mp DJ9_max_7cf53_0 e he
theorem KJ9_max_7cf53 : zMK MJ9_max_7cf53 := ⟨OJ9_max_7cf53, by decide +kernel, z_in (List.mem_of_getElem? (i := 55) (by decide +kernel)), z_in (List.mem_of_getElem? (i := 3) (by decide +kernel)), by decide +kernel, by decide +kernel⟩
theorem SJ9_max_7cf53 : Jvm.Cond.static yJ9_max_7cf53 ∈ lw_tbl := z_in (List.mem_of_getElem? (i := 54) (by decide +kernel))
def CJ9_min_7cf53_0 : List zEn := [(0, .iload_n 0, 1, 0, 0), (1, .iload_n 1, 2, 0, 0), (2, .if_icmp .gt 7, 5, 0, 9), (5, .iload_n 0, 6, 0, 0), (6, .goto 4, 9, 0, 10), (9, .iload_n 1, 10, 0, 0), (10, .ireturn, 11, 0, 0)]
def MJ9_min_7cf53 : zMI := (yJ9_min_7cf53, cJ9_min_7cf53, 2, (some .int), [(99999, CJ9_min_7cf53_0)], [])
theorem DJ9_min_7cf53_0 : CJ9_min_7cf53_0.all (zchk cJ9_min_7cf53) = true := by decide +kernel
theorem OJ9_min_7cf53 : zMOK MJ9_min_7cf53 := by
  intro q hq e he
  simp only [MJ9_min_7cf53, zFt, List.mem_cons, List.not_mem_nil, or_false] at hq
  rcases hq with rfl
  · exact List.all_eq_true.mp DJ9_min_7cf53_0 e he
theorem KJ9_min_7cf53 : zMK MJ9_min_7cf53 := ⟨OJ9_min_7cf53, by decide +kernel, z_in (List.mem_of_getElem? (i := 52) (by decide +kernel)), z_in (List.mem_of_getElem? (i := 3) (by decide +kernel)), by decide +kernel, by decide +kernel⟩
theorem SJ9_min_7cf53 : Jvm.Cond.static yJ9_min_7cf53 ∈ lw_tbl := z_in (List.mem_of_getElem? (i := 51) (by decide +kernel))
def CJxa1e45_init_da8c8_0 : List zEn := [(0, .aload_n 0, 1, 0, 0), (1, .invokespecial 1, 4, 0, 12), (4, .return_, 5, 0, 0)]
def MJxa1e45_init_da8c8 : zMI := (yJxa1e45_init_da8c8, cJxa1e45_init_da8c8, 1, none, [(99999, CJxa1e45_init_da8c8_0)], [])
theorem DJxa1e45_init_da8c8_0 : CJxa1e45_init_da8c8_0.all (zchk cJxa1e45_init_da8c8) = true := by decide +kernel
theorem OJxa1e45_init_da8c8 : zMOK MJxa1e45_init_da8c8 := by
  intro q hq e he
  simp only [MJxa1e45_init_da8c8, zFt, List.mem_cons, List.not_mem_nil, or_false] at hq
  rcases hq with rfl
  · exact List.all_eq_true.mp DJxa1e45_init_da8c8_0 e he
theorem KJxa1e45_init_da8c8 : zMK MJxa1e45_init_da8c8 := ⟨OJxa1e45_init_da8c8, by decide +kernel, z_in (List.mem_of_getElem? (i := 97) (by decide +kernel)), z_in (List.mem_of_getElem? (i := 5) (by decide +kernel)), by decide +kernel, by decide +kernel⟩
theorem IJxa1e45_init_da8c8 : Jvm.Cond.instanceMethod yJxa1e45_init_da8c8 ∈ lw_tbl := z_in (List.mem_of_getElem? (i := 96) (by decide +kernel))
def CJxc12de_init_da8c8_0 : List zEn := [(0, .aload_n 0, 1, 0, 0), (1, .invokespecial 1, 4, 0, 11), (4, .aload_n 0, 5, 0, 0), (5, .iconst 0, 6, 0, 0), (6, .putfield 7, 9, 0, 16), (9, .return_, 10, 0, 0)]
def MJxc12de_init_da8c8 : zMI := (yJxc12de_init_da8c8, cJxc12de_init_da8c8, 1, none, [(99999, CJxc12de_init_da8c8_0)], [])
theorem DJxc12de_init_da8c8_0 : CJxc12de_init_da8c8_0.all (zchk cJxc12de_init_da8c8) = true := by decide +kernel
theorem OJxc12de_init_da8c8 : zMOK MJxc12de_init_da8c8 := by
  intro q hq e he
  simp only [MJxc12de_init_da8c8, zFt, List.mem_cons, List.not_mem_nil, or_false] at hq
  rcases hq with rfl
  · exact List.all_eq_true.mp DJxc12de_init_da8c8_0 e he
theorem KJxc12de_init_da8c8 : zMK MJxc12de_init_da8c8 := ⟨OJxc12de_init_da8c8, by decide +kernel, z_in (List.mem_of_getElem? (i := 94) (by decide +kernel)), z_in (List.mem_of_getElem? (i := 6) (by decide +kernel)), by decide +kernel, by decide +kernel⟩
theorem IJxc12de_init_da8c8 : Jvm.Cond.instanceMethod yJxc12de_init_da8c8 ∈ lw_tbl := z_in (List.mem_of_getElem? (i := 93) (by decide +kernel))
def CJx4a65c_init_da8c8_0 : List zEn := [(0, .aload_n 0, 1, 0, 0), (1, .invokespecial 1, 4, 0, 10), (4, .aload_n 0, 5, 0, 0), (5, .getstatic 39, 8, 0, 13), (8, .putfield 9, 11, 0, 14), (11, .return_, 12, 0, 0)]
def MJx4a65c_init_da8c8 : zMI := (yJx4a65c_init_da8c8, cJx4a65c_init_da8c8, 1, none, [(99999, CJx4a65c_init_da8c8_0)], [])
theorem DJx4a65c_init_da8c8_0 : CJx4a65c_init_da8c8_0.all (zchk cJx4a65c_init_da8c8) = true := by decide +kernel
theorem OJx4a65c_init_da8c8 : zMOK MJx4a65c_init_da8c8 := by
  intro q hq e he
  simp only [MJx4a65c_init_da8c8, zFt, List.mem_cons, List.not_mem_nil, or_false] at hq
  rcases hq with rfl
  · exact List.all_eq_true.mp DJx4a65c_init_da8c8_0 e he
theorem KJx4a65c_init_da8c8 : zMK MJx4a65c_init_da8c8 := ⟨OJx4a65c_init_da8c8, by decide +kernel, z_in (List.mem_of_getElem? (i := 91) (by decide +kernel)), z_in (List.mem_of_getElem? (i := 7) (by decide +kernel)), by decide +kernel, by decide +kernel⟩
theorem IJx4a65c_init_da8c8 : Jvm.Cond.instanceMethod yJx4a65c_init_da8c8 ∈ lw_tbl := z_in (List.mem_of_getElem? (i := 90) (by decide +kernel))
def CJx4a65c_grow_92f84_0 : List zEn := [(0, .aload_n 0, 1, 0, 0), (1, .getfield 9, 4, 0, 14), (4, .arraylength, 5, 0, 0), (5, .istore_n 2, 6, 0, 0), (6, .iload_n 2, 7, 0, 0), (7, .ifCond .gt 13, 10, 0, 20), (10, .aload_n 0, 11, 0, 0), (11, .getfield 9, 14, 0, 14), (14, .getstatic 39, 17, 0, 13), (17, .if_acmp .eq 28, 20, 0, 45), (20, .iload_n 2, 21, 0, 0), (21, .iload_n 1, 22, 0, 0), (22, .iload_n 2, 23, 0, 0), (23, .isub, 24, 0, 0), (24, .iload_n 2, 25, 0, 0), (25, .iconst 1, 26, 1, 0), (26, .ishr, 27, 0, 0), (27, .invokestatic 73, 30, 0, 57), (30, .istore_n 3, 31, 0, 0), (31, .aload_n 0, 32, 0, 0), (32, .aload_n 0, 33, 0, 0), (33, .getfield 9, 36, 0, 14), (36, .iload_n 3, 37, 0, 0), (37, .invokestatic 66, 40, 0, 60), (40, .dup_x1, 41, 0, 0), (41, .putfield 9, 44, 0, 14), (44, .areturn, 45, 0, 0), (45, .aload_n 0, 46, 0, 0), (46, .bipush 10, 48, 10, 0), (48, .iload_n 1, 49, 0, 0)]
def CJx4a65c_grow_92f84_1 : List zEn := [(49, .invokestatic 79, 52, 0, 65), (52, .anewarray 7, 55, 0, 18), (55, .dup_x1, 56, 0, 0), (56, .putfield 9, 59, 0, 14), (59, .areturn, 60, 0, 0)]
def MJx4a65c_grow_92f84 : zMI := (yJx4a65c_grow_92f84, cJx4a65c_grow_92f84, 4, (some (.array (.object "java/lang/Object"))), [(49, CJx4a65c_grow_92f84_0), (99999, CJx4a65c_grow_92f84_1)], [])
theorem DJx4a65c_grow_92f84_0 : CJx4a65c_grow_92f84_0.all (zchk cJx4a65c_grow_92f84) = true := by decide +kernel
theorem DJx4a65c_grow_92f84_1 : CJx4a65c_grow_92f84_1.all (zchk cJx4a65c_grow_92f84) = true := by decide +kernel
theorem OJx4a65c_grow_92f84 : zMOK MJx4a65c_grow_92f84 := by
  intro q hq e he
  simp only [MJx4a65c_grow_92f84, zFt, List.mem_cons, List.not_mem_nil, or_false] at hq
  rcases hq with rfl | rfl
  · exact List.all_eq_true.mp DJx4a65c_grow_92f84_0 e he
  · exact List.all_eq_true.mp DJx4a65c_grow_92f84_1 e he
theorem KJx4a65c_grow_92f84 : zMK MJx4a65c_grow_92f84 := ⟨OJx4a65c_grow_92f84, by decide +kernel, z_in (List.mem_of_getElem? (i := 381) (by decide +kernel)), z_in (List.mem_of_getElem? (i := 7) (by decide +kernel)), by decide +kernel, by decide +kernel⟩
theorem IJx4a65c_grow_92f84 : Jvm.Cond.instanceMethod yJx4a65c_grow_92f84 ∈ lw_tbl := z_in (List.mem_of_getElem? (i := 380) (by decide +kernel))
theorem VJx4a65c_grow_92f84 : Jvm.Cond.selects "java/util/ArrayList" yJx4a65c_grow_92f84 yJx4a65c_grow_92f84 ∈ lw_tbl := List.mem_append_left _ (List.mem_of_getElem? (i := 5) (by decide +kernel))
def CJx4a65c_grow_d5877_0 : List zEn := [(0, .aload_n 0, 1, 0, 0), (1, .aload_n 0, 2, 0, 0), (2, .getfield 48, 5, 0, 15), (5, .iconst 1, 6, 1, 0), (6, .iadd, 7, 0, 0), (7, .invokevirtual 69, 10, 0, 56), (10, .areturn, 11, 0, 0)]
def MJx4a65c_grow_d5877 : zMI := (yJx4a65c_grow_d5877, cJx4a65c_grow_d5877, 1, (some (.array (.object "java/lang/Object"))), [(99999, CJx4a65c_grow_d5877_0)], [])
theorem DJx4a65c_grow_d5877_0 : CJx4a65c_grow_d5877_0.all (zchk cJx4a65c_grow_d5877) = true := by decide +kernel
theorem OJx4a65c_grow_d5877 : zMOK MJx4a65c_grow_d5877 := by
  intro q hq e he
  simp only [MJx4a65c_grow_d5877, zFt, List.mem_cons, List.not_mem_nil, or_false] at hq
  rcases hq with rfl
  · exact List.all_eq_true.mp DJx4a65c_grow_d5877_0 e he
theorem KJx4a65c_grow_d5877 : zMK MJx4a65c_grow_d5877 := ⟨OJx4a65c_grow_d5877, by decide +kernel, z_in (List.mem_of_getElem? (i := 377) (by decide +kernel)), z_in (List.mem_of_getElem? (i := 7) (by decide +kernel)), by decide +kernel, by decide +kernel⟩
theorem IJx4a65c_grow_d5877 : Jvm.Cond.instanceMethod yJx4a65c_grow_d5877 ∈ lw_tbl := z_in (List.mem_of_getElem? (i := 376) (by decide +kernel))
theorem VJx4a65c_grow_d5877 : Jvm.Cond.selects "java/util/ArrayList" yJx4a65c_grow_d5877 yJx4a65c_grow_d5877 ∈ lw_tbl := List.mem_append_left _ (List.mem_of_getElem? (i := 4) (by decide +kernel))
def CJx4a65c_size_8abf5_0 : List zEn := [(0, .aload_n 0, 1, 0, 0), (1, .getfield 48, 4, 0, 15), (4, .ireturn, 5, 0, 0)]
def MJx4a65c_size_8abf5 : zMI := (yJx4a65c_size_8abf5, cJx4a65c_size_8abf5, 1, (some .int), [(99999, CJx4a65c_size_8abf5_0)], [])
theorem DJx4a65c_size_8abf5_0 : CJx4a65c_size_8abf5_0.all (zchk cJx4a65c_size_8abf5) = true := by decide +kernel
theorem OJx4a65c_size_8abf5 : zMOK MJx4a65c_size_8abf5 := by
  intro q hq e he
  simp only [MJx4a65c_size_8abf5, zFt, List.mem_cons, List.not_mem_nil, or_false] at hq
  rcases hq with rfl
  · exact List.all_eq_true.mp DJx4a65c_size_8abf5_0 e he
theorem KJx4a65c_size_8abf5 : zMK MJx4a65c_size_8abf5 := ⟨OJx4a65c_size_8abf5, by decide +kernel, z_in (List.mem_of_getElem? (i := 266) (by decide +kernel)), z_in (List.mem_of_getElem? (i := 7) (by decide +kernel)), by decide +kernel, by decide +kernel⟩
theorem IJx4a65c_size_8abf5 : Jvm.Cond.instanceMethod yJx4a65c_size_8abf5 ∈ lw_tbl := z_in (List.mem_of_getElem? (i := 264) (by decide +kernel))
theorem VJx4a65c_size_8abf5 : Jvm.Cond.selects "java/util/ArrayList" yJx4a65c_size_8abf5 yJx4a65c_size_8abf5 ∈ lw_tbl := z_in (List.mem_of_getElem? (i := 265) (by decide +kernel))
def CJx4a65c_isEmpty_aae02_0 : List zEn := [(0, .aload_n 0, 1, 0, 0), (1, .getfield 48, 4, 0, 15), (4, .ifCond .ne 7, 7, 0, 11), (7, .iconst 1, 8, 1, 0), (8, .goto 4, 11, 0, 12), (11, .iconst 0, 12, 0, 0), (12, .ireturn, 13, 0, 0)]
def MJx4a65c_isEmpty_aae02 : zMI := (yJx4a65c_isEmpty_aae02, cJx4a65c_isEmpty_aae02, 1, (some .boolean), [(99999, CJx4a65c_isEmpty_aae02_0)], [])
theorem DJx4a65c_isEmpty_aae02_0 : CJx4a65c_isEmpty_aae02_0.all (zchk cJx4a65c_isEmpty_aae02) = true := by decide +kernel
theorem OJx4a65c_isEmpty_aae02 : zMOK MJx4a65c_isEmpty_aae02 := by
  intro q hq e he
  simp only [MJx4a65c_isEmpty_aae02, zFt, List.mem_cons, List.not_mem_nil, or_false] at hq
  rcases hq with rfl
  · exact List.all_eq_true.mp DJx4a65c_isEmpty_aae02_0 e he
theorem KJx4a65c_isEmpty_aae02 : zMK MJx4a65c_isEmpty_aae02 := ⟨OJx4a65c_isEmpty_aae02, by decide +kernel, z_in (List.mem_of_getElem? (i := 860) (by decide +kernel)), z_in (List.mem_of_getElem? (i := 7) (by decide +kernel)), by decide +kernel, by decide +kernel⟩
theorem IJx4a65c_isEmpty_aae02 : Jvm.Cond.instanceMethod yJx4a65c_isEmpty_aae02 ∈ lw_tbl := z_in (List.mem_of_getElem? (i := 858) (by decide +kernel))
theorem VJx4a65c_isEmpty_aae02 : Jvm.Cond.selects "java/util/ArrayList" yJx4a65c_isEmpty_aae02 yJx4a65c_isEmpty_aae02 ∈ lw_tbl := z_in (List.mem_of_getElem? (i := 859) (by decide +kernel))
def CJx4a65c_elementData_915e3_0 : List zEn := [(0, .aload_n 0, 1, 0, 0), (1, .getfield 9, 4, 0, 14), (4, .iload_n 1, 5, 0, 0), (5, .aaload, 6, 0, 0), (6, .areturn, 7, 0, 0)]
def MJx4a65c_elementData_915e3 : zMI := (yJx4a65c_elementData_915e3, cJx4a65c_elementData_915e3, 2, (some (.object "java/lang/Object")), [(99999, CJx4a65c_elementData_915e3_0)], [])
theorem DJx4a65c_elementData_915e3_0 : CJx4a65c_elementData_915e3_0.all (zchk cJx4a65c_elementData_915e3) = true := by decide +kernel
theorem OJx4a65c_elementData_915e3 : zMOK MJx4a65c_elementData_915e3 := by
  intro q hq e he
  simp only [MJx4a65c_elementData_915e3, zFt, List.mem_cons, List.not_mem_nil, or_false] at hq
  rcases hq with rfl
  · exact List.all_eq_true.mp DJx4a65c_elementData_915e3_0 e he
theorem KJx4a65c_elementData_915e3 : zMK MJx4a65c_elementData_915e3 := ⟨OJx4a65c_elementData_915e3, by decide +kernel, z_in (List.mem_of_getElem? (i := 286) (by decide +kernel)), z_in (List.mem_of_getElem? (i := 7) (by decide +kernel)), by decide +kernel, by decide +kernel⟩
theorem IJx4a65c_elementData_915e3 : Jvm.Cond.instanceMethod yJx4a65c_elementData_915e3 ∈ lw_tbl := z_in (List.mem_of_getElem? (i := 284) (by decide +kernel))
theorem VJx4a65c_elementData_915e3 : Jvm.Cond.selects "java/util/ArrayList" yJx4a65c_elementData_915e3 yJx4a65c_elementData_915e3 ∈ lw_tbl := z_in (List.mem_of_getElem? (i := 285) (by decide +kernel))
def CJx4a65c_get_915e3_0 : List zEn := [(0, .iload_n 1, 1, 0, 0), (1, .aload_n 0, 2, 0, 0), (2, .getfield 48, 5, 0, 15), (5, .invokestatic 118, 8, 0, 37), (8, .pop, 9, 0, 0), (9, .aload_n 0, 10, 0, 0), (10, .iload_n 1, 11, 0, 0), (11, .invokevirtual 123, 14, 0, 39), (14, .areturn, 15, 0, 0)]
def MJx4a65c_get_915e3 : zMI := (yJx4a65c_get_915e3, cJx4a65c_get_915e3, 2, (some (.object "java/lang/Object")), [(99999, CJx4a65c_get_915e3_0)], [])
theorem DJx4a65c_get_915e3_0 : CJx4a65c_get_915e3_0.all (zchk cJx4a65c_get_915e3) = true := by decide +kernel
theorem OJx4a65c_get_915e3 : zMOK MJx4a65c_get_915e3 := by
  intro q hq e he
  simp only [MJx4a65c_get_915e3, zFt, List.mem_cons, List.not_mem_nil, or_false] at hq
  rcases hq with rfl
  · exact List.all_eq_true.mp DJx4a65c_get_915e3_0 e he
theorem KJx4a65c_get_915e3 : zMK MJx4a65c_get_915e3 := ⟨OJx4a65c_get_915e3, by decide +kernel, z_in (List.mem_of_getElem? (i := 276) (by decide +kernel)), z_in (List.mem_of_getElem? (i := 7) (by decide +kernel)), by decide +kernel, by decide +kernel⟩
theorem IJx4a65c_get_915e3 : Jvm.Cond.instanceMethod yJx4a65c_get_915e3 ∈ lw_tbl := z_in (List.mem_of_getElem? (i := 274) (by decide +kernel))
theorem VJx4a65c_get_915e3 : Jvm.Cond.selects "java/util/ArrayList" yJx4a65c_get_915e3 yJx4a65c_get_915e3 ∈ lw_tbl := z_in (List.mem_of_getElem? (i := 275) (by decide +kernel))
def CJx4a65c_add_72be8_0 : List zEn := [(0, .iload_n 3, 1, 0, 0), (1, .aload_n 2, 2, 0, 0), (2, .arraylength, 3, 0, 0), (3, .if_icmp .ne 8, 6, 0, 11), (6, .aload_n 0, 7, 0, 0), (7, .invokevirtual 129, 10, 0, 55), (10, .astore_n 2, 11, 0, 0), (11, .aload_n 2, 12, 0, 0), (12, .iload_n 3, 13, 0, 0), (13, .aload_n 1, 14, 0, 0), (14, .aastore, 15, 0, 0), (15, .aload_n 0, 16, 0, 0), (16, .iload_n 3, 17, 0, 0), (17, .iconst 1, 18, 1, 0), (18, .iadd, 19, 0, 0), (19, .putfield 48, 22, 0, 15), (22, .return_, 23, 0, 0)]
def MJx4a65c_add_72be8 : zMI := (yJx4a65c_add_72be8, cJx4a65c_add_72be8, 4, none, [(99999, CJx4a65c_add_72be8_0)], [])
theorem DJx4a65c_add_72be8_0 : CJx4a65c_add_72be8_0.all (zchk cJx4a65c_add_72be8) = true := by decide +kernel
theorem OJx4a65c_add_72be8 : zMOK MJx4a65c_add_72be8 := by
  intro q hq e he
  simp only [MJx4a65c_add_72be8, zFt, List.mem_cons, List.not_mem_nil, or_false] at hq
  rcases hq with rfl
  · exact List.all_eq_true.mp DJx4a65c_add_72be8_0 e he
theorem KJx4a65c_add_72be8 : zMK MJx4a65c_add_72be8 := ⟨OJx4a65c_add_72be8, by decide +kernel, z_in (List.mem_of_getElem? (i := 373) (by decide +kernel)), z_in (List.mem_of_getElem? (i := 7) (by decide +kernel)), by decide +kernel, by decide +kernel⟩
theorem IJx4a65c_add_72be8 : Jvm.Cond.instanceMethod yJx4a65c_add_72be8 ∈ lw_tbl := z_in (List.mem_of_getElem? (i := 372) (by decide +kernel))
theorem VJx4a65c_add_72be8 : Jvm.Cond.selects "java/util/ArrayList" yJx4a65c_add_72be8 yJx4a65c_add_72be8 ∈ lw_tbl := List.mem_append_left _ (List.mem_of_getElem? (i := 3) (by decide +kernel))
def CJx4a65c_add_9ea2d_0 : List zEn := [(0, .aload_n 0, 1, 0, 0), (1, .dup, 2, 0, 0), (2, .getfield 63, 5, 0, 17), (5, .iconst 1, 6, 1, 0), (6, .iadd, 7, 0, 0), (7, .putfield 63, 10, 0, 17), (10, .aload_n 0, 11, 0, 0), (11, .aload_n 1, 12, 0, 0), (12, .aload_n 0, 13, 0, 0), (13, .getfield 9, 16, 0, 14), (16, .aload_n 0, 17, 0, 0), (17, .getfield 48, 20, 0, 15), (20, .invokevirtual 131, 23, 0, 54), (23, .iconst 1, 24, 1, 0), (24, .ireturn, 25, 0, 0)]
def MJx4a65c_add_9ea2d : zMI := (yJx4a65c_add_9ea2d, cJx4a65c_add_9ea2d, 2, (some .boolean), [(99999, CJx4a65c_add_9ea2d_0)], [])
theorem DJx4a65c_add_9ea2d_0 : CJx4a65c_add_9ea2d_0.all (zchk cJx4a65c_add_9ea2d) = true := by decide +kernel
theorem OJx4a65c_add_9ea2d : zMOK MJx4a65c_add_9ea2d := by
  intro q hq e he
  simp only [MJx4a65c_add_9ea2d, zFt, List.mem_cons, List.not_mem_nil, or_false] at hq
  rcases hq with rfl
  · exact List.all_eq_true.mp DJx4a65c_add_9ea2d_0 e he
theorem KJx4a65c_add_9ea2d : zMK MJx4a65c_add_9ea2d := ⟨OJx4a65c_add_9ea2d, by decide +kernel, z_in (List.mem_of_getElem? (i := 369) (by decide +kernel)), z_in (List.mem_of_getElem? (i := 7) (by decide +kernel)), by decide +kernel, by decide +kernel⟩
theorem IJx4a65c_add_9ea2d : Jvm.Cond.instanceMethod yJx4a65c_add_9ea2d ∈ lw_tbl := z_in (List.mem_of_getElem? (i := 367) (by decide +kernel))
theorem VJx4a65c_add_9ea2d : Jvm.Cond.selects "java/util/ArrayList" yJx4a65c_add_9ea2d yJx4a65c_add_9ea2d ∈ lw_tbl := z_in (List.mem_of_getElem? (i := 368) (by decide +kernel))
def CJx4a65c_remove_915e3_0 : List zEn := [(0, .iload_n 1, 1, 0, 0), (1, .aload_n 0, 2, 0, 0), (2, .getfield 48, 5, 0, 15), (5, .invokestatic 118, 8, 0, 37), (8, .pop, 9, 0, 0), (9, .aload_n 0, 10, 0, 0), (10, .getfield 9, 13, 0, 14), (13, .astore_n 2, 14, 0, 0), (14, .aload_n 2, 15, 0, 0), (15, .iload_n 1, 16, 0, 0), (16, .aaload, 17, 0, 0), (17, .astore_n 3, 18, 0, 0), (18, .aload_n 0, 19, 0, 0), (19, .aload_n 2, 20, 0, 0), (20, .iload_n 1, 21, 0, 0), (21, .invokevirtual 144, 24, 0, 133), (24, .aload_n 3, 25, 0, 0), (25, .areturn, 26, 0, 0)]
def MJx4a65c_remove_915e3 : zMI := (yJx4a65c_remove_915e3, cJx4a65c_remove_915e3, 4, (some (.object "java/lang/Object")), [(99999, CJx4a65c_remove_915e3_0)], [])
theorem DJx4a65c_remove_915e3_0 : CJx4a65c_remove_915e3_0.all (zchk cJx4a65c_remove_915e3) = true := by decide +kernel
theorem OJx4a65c_remove_915e3 : zMOK MJx4a65c_remove_915e3 := by
  intro q hq e he
  simp only [MJx4a65c_remove_915e3, zFt, List.mem_cons, List.not_mem_nil, or_false] at hq
  rcases hq with rfl
  · exact List.all_eq_true.mp DJx4a65c_remove_915e3_0 e he
theorem KJx4a65c_remove_915e3 : zMK MJx4a65c_remove_915e3 := ⟨OJx4a65c_remove_915e3, by decide +kernel, z_in (List.mem_of_getElem? (i := 773) (by decide +kernel)), z_in (List.mem_of_getElem? (i := 7) (by decide +kernel)), by decide +kernel, by decide +kernel⟩
theorem IJx4a65c_remove_915e3 : Jvm.Cond.instanceMethod yJx4a65c_remove_915e3 ∈ lw_tbl := z_in (List.mem_of_getElem? (i := 771) (by decide +kernel))
theorem VJx4a65c_remove_915e3 : Jvm.Cond.selects "java/util/ArrayList" yJx4a65c_remove_915e3 yJx4a65c_remove_915e3 ∈ lw_tbl := z_in (List.mem_of_getElem? (i := 772) (by decide +kernel))
def CJx4a65c_fastRemove_b59b0_0 : List zEn := [(0, .aload_n 0, 1, 0, 0), (1, .dup, 2, 0, 0), (2, .getfield 63, 5, 0, 17), (5, .iconst 1, 6, 1, 0), (6, .iadd, 7, 0, 0), (7, .putfield 63, 10, 0, 17), (10, .aload_n 0, 11, 0, 0), (11, .getfield 48, 14, 0, 15), (14, .iconst 1, 15, 1, 0), (15, .isub, 16, 0, 0), (16, .dup, 17, 0, 0), (17, .istore_n 3, 18, 0, 0), (18, .iload_n 2, 19, 0, 0), (19, .if_icmp .le 15, 22, 0, 34), (22, .aload_n 1, 23, 0, 0), (23, .iload_n 2, 24, 0, 0), (24, .iconst 1, 25, 1, 0), (25, .iadd, 26, 0, 0), (26, .aload_n 1, 27, 0, 0), (27, .iload_n 2, 28, 0, 0), (28, .iload_n 3, 29, 0, 0), (29, .iload_n 2, 30, 0, 0), (30, .isub, 31, 0, 0), (31, .invokestatic 112, 34, 0, 134), (34, .aload_n 1, 35, 0, 0), (35, .aload_n 0, 36, 0, 0), (36, .iload_n 3, 37, 0, 0), (37, .dup_x1, 38, 0, 0), (38, .putfield 48, 41, 0, 15), (41, .aconst_null, 42, 0, 0)]
def CJx4a65c_fastRemove_b59b0_1 : List zEn := [(42, .aastore, 43, 0, 0), (43, .return_, 44, 0, 0)]
def MJx4a65c_fastRemove_b59b0 : zMI := (yJx4a65c_fastRemove_b59b0, cJx4a65c_fastRemove_b59b0, 4, none, [(42, CJx4a65c_fastRemove_b59b0_0), (99999, CJx4a65c_fastRemove_b59b0_1)], [])
theorem DJx4a65c_fastRemove_b59b0_0 : CJx4a65c_fastRemove_b59b0_0.all (zchk cJx4a65c_fastRemove_b59b0) = true := by decide +kernel
theorem DJx4a65c_fastRemove_b59b0_1 : CJx4a65c_fastRemove_b59b0_1.all (zchk cJx4a65c_fastRemove_b59b0) = true := by decide +kernel
theorem OJx4a65c_fastRemove_b59b0 : zMOK MJx4a65c_fastRemove_b59b0 := by
  intro q hq e he
  simp only [MJx4a65c_fastRemove_b59b0, zFt, List.mem_cons, List.not_mem_nil, or_false] at hq
  rcases hq with rfl | rfl
  · exact List.all_eq_true.mp DJx4a65c_fastRemove_b59b0_0 e he
  · exact List.all_eq_true.mp DJx4a65c_fastRemove_b59b0_1 e he
theorem KJx4a65c_fastRemove_b59b0 : zMK MJx4a65c_fastRemove_b59b0 := ⟨OJx4a65c_fastRemove_b59b0, by decide +kernel, z_in (List.mem_of_getElem? (i := 777) (by decide +kernel)), z_in (List.mem_of_getElem? (i := 7) (by decide +kernel)), by decide +kernel, by decide +kernel⟩
theorem IJx4a65c_fastRemove_b59b0 : Jvm.Cond.instanceMethod yJx4a65c_fastRemove_b59b0 ∈ lw_tbl := z_in (List.mem_of_getElem? (i := 776) (by decide +kernel))
theorem VJx4a65c_fastRemove_b59b0 : Jvm.Cond.selects "java/util/ArrayList" yJx4a65c_fastRemove_b59b0 yJx4a65c_fastRemove_b59b0 ∈ lw_tbl := List.mem_append_left _ (List.mem_of_getElem? (i := 17) (by decide +kernel))
def CJx4a65c_clear_da8c8_0 : List zEn := [(0, .aload_n 0, 1, 0, 0), (1, .dup, 2, 0, 0), (2, .getfield 63, 5, 0, 17), (5, .iconst 1, 6, 1, 0), (6, .iadd, 7, 0, 0), (7, .putfield 63, 10, 0, 17), (10, .aload_n 0, 11, 0, 0), (11, .getfield 9, 14, 0, 14), (14, .astore_n 1, 15, 0, 0), (15, .aload_n 0, 16, 0, 0), (16, .getfield 48, 19, 0, 15), (19, .istore_n 2, 20, 0, 0), (20, .aload_n 0, 21, 0, 0), (21, .iconst 0, 22, 0, 0), (22, .dup_x1, 23, 0, 0), (23, .putfield 48, 26, 0, 15), (26, .istore_n 3, 27, 0, 0), (27, .iload_n 3, 28, 0, 0), (28, .iload_n 2, 29, 0, 0), (29, .if_icmp .ge 13, 32, 0, 42), (32, .aload_n 1, 33, 0, 0), (33, .iload_n 3, 34, 0, 0), (34, .aconst_null, 35, 0, 0), (35, .aastore, 36, 0, 0), (36, .iinc 3 1, 39, 1, 0), (39, .goto (-12), 42, 0, 27), (42, .return_, 43, 0, 0)]
def MJx4a65c_clear_da8c8 : zMI := (yJx4a65c_clear_da8c8, cJx4a65c_clear_da8c8, 4, none, [(99999, CJx4a65c_clear_da8c8_0)], [])
theorem DJx4a65c_clear_da8c8_0 : CJx4a65c_clear_da8c8_0.all (zchk cJx4a65c_clear_da8c8) = true := by decide +kernel
theorem OJx4a65c_clear_da8c8 : zMOK MJx4a65c_clear_da8c8 := by
  intro q hq e he
  simp only [MJx4a65c_clear_da8c8, zFt, List.mem_cons, List.not_mem_nil, or_false] at hq
  rcases hq with rfl
  · exact List.all_eq_true.mp DJx4a65c_clear_da8c8_0 e he
theorem KJx4a65c_clear_da8c8 : zMK MJx4a65c_clear_da8c8 := ⟨OJx4a65c_clear_da8c8, by decide +kernel, z_in (List.mem_of_getElem? (i := 540) (by decide +kernel)), z_in (List.mem_of_getElem? (i := 7) (by decide +kernel)), by decide +kernel, by decide +kernel⟩
theorem IJx4a65c_clear_da8c8 : Jvm.Cond.instanceMethod yJx4a65c_clear_da8c8 ∈ lw_tbl := z_in (List.mem_of_getElem? (i := 538) (by decide +kernel))
theorem VJx4a65c_clear_da8c8 : Jvm.Cond.selects "java/util/ArrayList" yJx4a65c_clear_da8c8 yJx4a65c_clear_da8c8 ∈ lw_tbl := z_in (List.mem_of_getElem? (i := 539) (by decide +kernel))
def CJ7_copyOf_1904c_0 : List zEn := [(0, .aload_n 0, 1, 0, 0), (1, .iload_n 1, 2, 0, 0), (2, .aload_n 0, 3, 0, 0), (3, .invokevirtual 86, 6, 0, 61), (6, .invokestatic 300, 9, 0, 62), (9, .areturn, 10, 0, 0)]
def MJ7_copyOf_1904c : zMI := (yJ7_copyOf_1904c, cJ7_copyOf_1904c, 2, (some (.array (.object "java/lang/Object"))), [(99999, CJ7_copyOf_1904c_0)], [])
theorem DJ7_copyOf_1904c_0 : CJ7_copyOf_1904c_0.all (zchk cJ7_copyOf_1904c) = true := by decide +kernel
theorem OJ7_copyOf_1904c : zMOK MJ7_copyOf_1904c := by
  intro q hq e he
  simp only [MJ7_copyOf_1904c, zFt, List.mem_cons, List.not_mem_nil, or_false] at hq
  rcases hq with rfl
  · exact List.all_eq_true.mp DJ7_copyOf_1904c_0 e he
theorem KJ7_copyOf_1904c : zMK MJ7_copyOf_1904c := ⟨OJ7_copyOf_1904c, by decide +kernel, z_in (List.mem_of_getElem? (i := 392) (by decide +kernel)), z_in (List.mem_of_getElem? (i := 20) (by decide +kernel)), by decide +kernel, by decide +kernel⟩
theorem SJ7_copyOf_1904c : Jvm.Cond.static yJ7_copyOf_1904c ∈ lw_tbl := z_in (List.mem_of_getElem? (i := 391) (by decide +kernel))
def CJ7_copyOf_6403c_0 : List zEn := [(0, .aload_n 2, 1, 0, 0), (1, .ldc 110, 3, 0, 0), (3, .if_acmp .ne 10, 6, 0, 13), (6, .iload_n 1, 7, 0, 0), (7, .anewarray 2, 10, 0, 17), (10, .goto 14, 13, 0, 24), (13, .aload_n 2, 14, 0, 0), (14, .invokevirtual 90, 17, 0, 0), (17, .iload_n 1, 18, 0, 0), (18, .invokestatic 95, 21, 0, 0), (21, .checkcast 110, 24, 0, 16), (24, .astore_n 3, 25, 0, 0), (25, .aload_n 0, 26, 0, 0), (26, .iconst 0, 27, 0, 0), (27, .aload_n 3, 28, 0, 0), (28, .iconst 0, 29, 0, 0), (29, .aload_n 0, 30, 0, 0), (30, .arraylength, 31, 0, 0), (31, .iload_n 1, 32, 0, 0), (32, .invokestatic 304, 35, 0, 63), (35, .invokestatic 150, 38, 0, 64), (38, .aload_n 3, 39, 0, 0), (39, .areturn, 40, 0, 0)]
def MJ7_copyOf_6403c : zMI := (yJ7_copyOf_6403c, cJ7_copyOf_6403c, 4, (some (.array (.object "java/lang/Object"))), [(99999, CJ7_copyOf_6403c_0)], [])
theorem DJ7_copyOf_6403c_0 : CJ7_copyOf_6403c_0.all (zchk cJ7_copyOf_6403c) = true := by decide +kernel
theorem OJ7_copyOf_6403c : zMOK MJ7_copyOf_6403c := by
  intro q hq e he
  simp only [MJ7_copyOf_6403c, zFt, List.mem_cons, List.not_mem_nil, or_false] at hq
  rcases hq with rfl
  · exact List.all_eq_true.mp DJ7_copyOf_6403c_0 e he
theorem KJ7_copyOf_6403c : zMK MJ7_copyOf_6403c := ⟨OJ7_copyOf_6403c, by decide +kernel, z_in (List.mem_of_getElem? (i := 415) (by decide +kernel)), z_in (List.mem_of_getElem? (i := 20) (by decide +kernel)), by decide +kernel, by decide +kernel⟩
theorem SJ7_copyOf_6403c : Jvm.Cond.static yJ7_copyOf_6403c ∈ lw_tbl := z_in (List.mem_of_getElem? (i := 414) (by decide +kernel))
def CJ15_checkIndex_7cf53_0 : List zEn := [(0, .iload_n 0, 1, 0, 0), (1, .iload_n 1, 2, 0, 0), (2, .aconst_null, 3, 0, 0), (3, .invokestatic 105, 6, 0, 38), (6, .ireturn, 7, 0, 0)]
def MJ15_checkIndex_7cf53 : zMI := (yJ15_checkIndex_7cf53, cJ15_checkIndex_7cf53, 2, (some .int), [(99999, CJ15_checkIndex_7cf53_0)], [])
theorem DJ15_checkIndex_7cf53_0 : CJ15_checkIndex_7cf53_0.all (zchk cJ15_checkIndex_7cf53) = true := by decide +kernel
theorem OJ15_checkIndex_7cf53 : zMOK MJ15_checkIndex_7cf53 := by
  intro q hq e he
  simp only [MJ15_checkIndex_7cf53, zFt, List.mem_cons, List.not_mem_nil, or_false] at hq
  rcases hq with rfl
  · exact List.all_eq_true.mp DJ15_checkIndex_7cf53_0 e he
theorem KJ15_checkIndex_7cf53 : zMK MJ15_checkIndex_7cf53 := ⟨OJ15_checkIndex_7cf53, by decide +kernel, z_in (List.mem_of_getElem? (i := 279) (by decide +kernel)), z_in (List.mem_of_getElem? (i := 16) (by decide +kernel)), by decide +kernel, by decide +kernel⟩
theorem SJ15_checkIndex_7cf53 : Jvm.Cond.static yJ15_checkIndex_7cf53 ∈ lw_tbl := z_in (List.mem_of_getElem? (i := 278) (by decide +kernel))
def CJ8_newLength_cabcc_0 : List zEn := [(0, .iload_n 0, 1, 0, 0), (1, .iload_n 1, 2, 0, 0), (2, .iload_n 2, 3, 0, 0), (3, .invokestatic 194, 6, 0, 58), (6, .iadd, 7, 0, 0), (7, .istore_n 3, 8, 0, 0), (8, .iconst 0, 9, 0, 0), (9, .iload_n 3, 10, 0, 0), (10, .if_icmp .ge 11, 13, 0, 21), (13, .iload_n 3, 14, 0, 0), (14, .ldc 200, 16, 0, 0), (16, .if_icmp .gt 5, 19, 0, 21), (19, .iload_n 3, 20, 0, 0), (20, .ireturn, 21, 0, 0), (21, .iload_n 0, 22, 0, 0), (22, .iload_n 1, 23, 0, 0), (23, .invokestatic 201, 26, 0, 59), (26, .ireturn, 27, 0, 0)]
def MJ8_newLength_cabcc : zMI := (yJ8_newLength_cabcc, cJ8_newLength_cabcc, 4, (some .int), [(99999, CJ8_newLength_cabcc_0)], [])
theorem DJ8_newLength_cabcc_0 : CJ8_newLength_cabcc_0.all (zchk cJ8_newLength_cabcc) = true := by decide +kernel
theorem OJ8_newLength_cabcc : zMOK MJ8_newLength_cabcc := by
  intro q hq e he
  simp only [MJ8_newLength_cabcc, zFt, List.mem_cons, List.not_mem_nil, or_false] at hq
  rcases hq with rfl
  · exact List.all_eq_true.mp DJ8_newLength_cabcc_0 e he
theorem KJ8_newLength_cabcc : zMK MJ8_newLength_cabcc := ⟨OJ8_newLength_cabcc, by decide +kernel, z_in (List.mem_of_getElem? (i := 384) (by decide +kernel)), z_in (List.mem_of_getElem? (i := 19) (by decide +kernel)), by decide +kernel, by decide +kernel⟩
theorem SJ8_newLength_cabcc : Jvm.Cond.static yJ8_newLength_cabcc ∈ lw_tbl := z_in (List.mem_of_getElem? (i := 383) (by decide +kernel))
def CJ8_hugeLength_7cf53_0 : List zEn := [(0, .iload_n 0, 1, 0, 0), (1, .iload_n 1, 2, 0, 0), (2, .iadd, 3, 0, 0), (3, .istore_n 2, 4, 0, 0), (4, .iload_n 2, 5, 0, 0), (5, .ifCond .ge 44, 8, 0, 49), (8, .new 204, 11, 0, 0), (11, .dup, 12, 0, 0), (12, .new 89, 15, 0, 0), (15, .dup, 16, 0, 0), (16, .invokespecial 91, 19, 0, 0), (19, .ldc 206, 21, 0, 0), (21, .invokevirtual 94, 24, 0, 0), (24, .iload_n 0, 25, 0, 0), (25, .invokevirtual 98, 28, 0, 0), (28, .ldc 208, 30, 0, 0), (30, .invokevirtual 94, 33, 0, 0), (33, .iload_n 1, 34, 0, 0), (34, .invokevirtual 98, 37, 0, 0), (37, .ldc 210, 39, 0, 0), (39, .invokevirtual 94, 42, 0, 0), (42, .invokevirtual 101, 45, 0, 0), (45, .invokespecial 212, 48, 0, 0), (48, .athrow, 49, 0, 0), (49, .iload_n 2, 50, 0, 0), (50, .ldc 200, 52, 0, 0), (52, .if_icmp .gt 6, 55, 0, 58), (55, .ldc 200, 57, 0, 0), (57, .ireturn, 58, 0, 0), (58, .iload_n 2, 59, 0, 0)]
def CJ8_hugeLength_7cf53_1 : List zEn := [(59, .ireturn, 60, 0, 0)]
def MJ8_hugeLength_7cf53 : zMI := (yJ8_hugeLength_7cf53, cJ8_hugeLength_7cf53, 3, (some .int), [(59, CJ8_hugeLength_7cf53_0), (99999, CJ8_hugeLength_7cf53_1)], [])
theorem DJ8_hugeLength_7cf53_0 : CJ8_hugeLength_7cf53_0.all (zchk cJ8_hugeLength_7cf53) = true := by decide +kernel
theorem DJ8_hugeLength_7cf53_1 : CJ8_hugeLength_7cf53_1.all (zchk cJ8_hugeLength_7cf53) = true := by decide +kernel
theorem OJ8_hugeLength_7cf53 : zMOK MJ8_hugeLength_7cf53 := by
  intro q hq e he
  simp only [MJ8_hugeLength_7cf53, zFt, List.mem_cons, List.not_mem_nil, or_false] at hq
  rcases hq with rfl | rfl
  · exact List.all_eq_true.mp DJ8_hugeLength_7cf53_0 e he
  · exact List.all_eq_true.mp DJ8_hugeLength_7cf53_1 e he
theorem KJ8_hugeLength_7cf53 : zMK MJ8_hugeLength_7cf53 := ⟨OJ8_hugeLength_7cf53, by decide +kernel, z_in (List.mem_of_getElem? (i := 389) (by decide +kernel)), z_in (List.mem_of_getElem? (i := 19) (by decide +kernel)), by decide +kernel, by decide +kernel⟩
theorem SJ8_hugeLength_7cf53 : Jvm.Cond.static yJ8_hugeLength_7cf53 ∈ lw_tbl := z_in (List.mem_of_getElem? (i := 388) (by decide +kernel))
def CJ3_checkIndex_8e157_0 : List zEn := [(0, .iload_n 0, 1, 0, 0), (1, .ifCond .lt 8, 4, 0, 9), (4, .iload_n 0, 5, 0, 0), (5, .iload_n 1, 6, 0, 0), (6, .if_icmp .lt 10, 9, 0, 16), (9, .aload_n 2, 10, 0, 0), (10, .iload_n 0, 11, 0, 0), (11, .iload_n 1, 12, 0, 0), (12, .invokestatic 95, 15, 0, 0), (15, .athrow, 16, 0, 0), (16, .iload_n 0, 17, 0, 0), (17, .ireturn, 18, 0, 0)]
def MJ3_checkIndex_8e157 : zMI := (yJ3_checkIndex_8e157, cJ3_checkIndex_8e157, 3, (some .int), [(99999, CJ3_checkIndex_8e157_0)], [])
theorem DJ3_checkIndex_8e157_0 : CJ3_checkIndex_8e157_0.all (zchk cJ3_checkIndex_8e157) = true := by decide +kernel
theorem OJ3_checkIndex_8e157 : zMOK MJ3_checkIndex_8e157 := by
  intro q hq e he
  simp only [MJ3_checkIndex_8e157, zFt, List.mem_cons, List.not_mem_nil, or_false] at hq
  rcases hq with rfl
  · exact List.all_eq_true.mp DJ3_checkIndex_8e157_0 e he
theorem KJ3_checkIndex_8e157 : zMK MJ3_checkIndex_8e157 := ⟨OJ3_checkIndex_8e157, by decide +kernel, z_in (List.mem_of_getElem? (i := 282) (by decide +kernel)), z_in (List.mem_of_getElem? (i := 17) (by decide +kernel)), by decide +kernel, by decide +kernel⟩
theorem SJ3_checkIndex_8e157 : Jvm.Cond.static yJ3_checkIndex_8e157 ∈ lw_tbl := z_in (List.mem_of_getElem? (i := 281) (by decide +kernel))
end
section
def CX0_init_0 : List zEn := [(0, .aload_n 0, 1, 0, 0), (1, .iconst 3, 2, 3, 0), (2, .iload_n 1, 3, 0, 0), (3, .iload 5, 5, 0, 0), (5, .iload_n 3, 6, 0, 0), (6, .invokestatic 3, 9, 0, 150), (9, .iadd, 10, 0, 0), (10, .iload_n 3, 11, 0, 0), (11, .iload 4, 13, 0, 0), (13, .invokespecial 9, 16, 0, 161), (16, .aload_n 0, 17, 0, 0), (17, .iconst 0, 18, 0, 0), (18, .putfield 15, 21, 0, 117), (21, .aload_n 0, 22, 0, 0), (22, .iload_n 2, 23, 0, 0), (23, .putfield 19, 26, 0, 111), (26, .aload_n 0, 27, 0, 0), (27, .iload 5, 29, 0, 0), (29, .putfield 22, 32, 0, 113), (32, .aload_n 0, 33, 0, 0), (33, .iload_n 3, 34, 0, 0), (34, .invokestatic 25, 37, 0, 162), (37, .putfield 28, 40, 0, 115), (40, .return_, 41, 0, 0)]
def MX0_init : zMI := (yX0_init, cX0_init, 6, none, [(99999, CX0_init_0)], [])
theorem DX0_init_0 : CX0_init_0.all (zchk cX0_init) = true := by decide +kernel
theorem OX0_init : zMOK MX0_init := by
  intro q hq e he
  simp only [MX0_init, zFt, List.mem_cons, List.not_mem_nil, or_false] at hq
  rcases hq with rfl
  · exact List.all_eq_true.mp DX0_init_0 e he
theorem KX0_init : zMK MX0_init := ⟨OX0_init, by decide +kernel, z_in (List.mem_of_getElem? (i := 872) (by decide +kernel)), z_in (List.mem_of_getElem? (i := 26) (by decide +kernel)), by decide +kernel, by decide +kernel⟩
theorem IX0_init : Jvm.Cond.instanceMethod yX0_init ∈ lw_tbl := z_in (List.mem_of_getElem? (i := 871) (by decide +kernel))
def CX0_redzone_0 : List zEn := [(0, .iload_n 0, 1, 0, 0), (1, .bipush 64, 3, 64, 0), (3, .if_icmp .gt 6, 6, 0, 9), (6, .bipush 16, 8, 16, 0), (8, .ireturn, 9, 0, 0), (9, .iload_n 0, 10, 0, 0), (10, .sipush 256, 13, 256, 0), (13, .if_icmp .gt 6, 16, 0, 19), (16, .bipush 32, 18, 32, 0), (18, .ireturn, 19, 0, 0), (19, .iload_n 0, 20, 0, 0), (20, .sipush 1024, 23, 1024, 0), (23, .if_icmp .gt 8, 26, 0, 31), (26, .bipush 64, 28, 64, 0), (28, .goto 6, 31, 0, 34), (31, .sipush 128, 34, 128, 0), (34, .ireturn, 35, 0, 0)]
def MX0_redzone : zMI := (yX0_redzone, cX0_redzone, 1, (some .int), [(99999, CX0_redzone_0)], [])
theorem DX0_redzone_0 : CX0_redzone_0.all (zchk cX0_redzone) = true := by decide +kernel
theorem OX0_redzone : zMOK MX0_redzone := by
  intro q hq e he
  simp only [MX0_redzone, zFt, List.mem_cons, List.not_mem_nil, or_false] at hq
  rcases hq with rfl
  · exact List.all_eq_true.mp DX0_redzone_0 e he
theorem KX0_redzone : zMK MX0_redzone := ⟨OX0_redzone, by decide +kernel, z_in (List.mem_of_getElem? (i := 843) (by decide +kernel)), z_in (List.mem_of_getElem? (i := 26) (by decide +kernel)), by decide +kernel, by decide +kernel⟩
theorem SX0_redzone : Jvm.Cond.static yX0_redzone ∈ lw_tbl := z_in (List.mem_of_getElem? (i := 842) (by decide +kernel))
def CX0_chunkBytesFor_0 : List zEn := [(0, .iload_n 0, 1, 0, 0), (1, .invokestatic 3, 4, 0, 150), (4, .iload_n 0, 5, 0, 0), (5, .bipush 16, 7, 16, 0), (7, .invokestatic 31, 10, 0, 6), (10, .iadd, 11, 0, 0), (11, .bipush 16, 13, 16, 0), (13, .iadd, 14, 0, 0), (14, .ireturn, 15, 0, 0)]
def MX0_chunkBytesFor : zMI := (yX0_chunkBytesFor, cX0_chunkBytesFor, 1, (some .int), [(99999, CX0_chunkBytesFor_0)], [])
theorem DX0_chunkBytesFor_0 : CX0_chunkBytesFor_0.all (zchk cX0_chunkBytesFor) = true := by decide +kernel
theorem OX0_chunkBytesFor : zMOK MX0_chunkBytesFor := by
  intro q hq e he
  simp only [MX0_chunkBytesFor, zFt, List.mem_cons, List.not_mem_nil, or_false] at hq
  rcases hq with rfl
  · exact List.all_eq_true.mp DX0_chunkBytesFor_0 e he
theorem KX0_chunkBytesFor : zMK MX0_chunkBytesFor := ⟨OX0_chunkBytesFor, by decide +kernel, z_in (List.mem_of_getElem? (i := 840) (by decide +kernel)), z_in (List.mem_of_getElem? (i := 26) (by decide +kernel)), by decide +kernel, by decide +kernel⟩
theorem SX0_chunkBytesFor : Jvm.Cond.static yX0_chunkBytesFor ∈ lw_tbl := z_in (List.mem_of_getElem? (i := 839) (by decide +kernel))
def CX0_isLost_0 : List zEn := [(0, .aload_n 0, 1, 0, 0), (1, .getfield 15, 4, 0, 117), (4, .ifCond .ne 14, 7, 0, 18), (7, .aload_n 0, 8, 0, 0), (8, .getfield 35, 11, 0, 120), (11, .ifCond .ne 7, 14, 0, 18), (14, .iconst 1, 15, 1, 0), (15, .goto 4, 18, 0, 19), (18, .iconst 0, 19, 0, 0), (19, .ireturn, 20, 0, 0)]
def MX0_isLost : zMI := (yX0_isLost, cX0_isLost, 1, (some .boolean), [(99999, CX0_isLost_0)], [])
theorem DX0_isLost_0 : CX0_isLost_0.all (zchk cX0_isLost) = true := by decide +kernel
theorem OX0_isLost : zMOK MX0_isLost := by
  intro q hq e he
  simp only [MX0_isLost, zFt, List.mem_cons, List.not_mem_nil, or_false] at hq
  rcases hq with rfl
  · exact List.all_eq_true.mp DX0_isLost_0 e he
theorem KX0_isLost : zMK MX0_isLost := ⟨OX0_isLost, by decide +kernel, z_in (List.mem_of_getElem? (i := 583) (by decide +kernel)), z_in (List.mem_of_getElem? (i := 26) (by decide +kernel)), by decide +kernel, by decide +kernel⟩
theorem IX0_isLost : Jvm.Cond.instanceMethod yX0_isLost ∈ lw_tbl := z_in (List.mem_of_getElem? (i := 581) (by decide +kernel))
theorem VX0_isLost : Jvm.Cond.selects "ShadowWard$Block" yX0_isLost yX0_isLost ∈ lw_tbl := z_in (List.mem_of_getElem? (i := 582) (by decide +kernel))
def CX0_answer_0 : List zEn := [(0, .iload_n 1, 1, 0, 0), (1, .tableswitch 78 0 6 #[43, 48, 53, 58, 63, 68, 73], 44, 0, 0), (44, .aload_n 0, 45, 0, 0), (45, .getfield 39, 48, 0, 79), (48, .ireturn, 49, 0, 0), (49, .aload_n 0, 50, 0, 0), (50, .getfield 42, 53, 0, 86), (53, .ireturn, 54, 0, 0), (54, .aload_n 0, 55, 0, 0), (55, .getfield 19, 58, 0, 111), (58, .ireturn, 59, 0, 0), (59, .aload_n 0, 60, 0, 0), (60, .getfield 15, 63, 0, 117), (63, .ireturn, 64, 0, 0), (64, .aload_n 0, 65, 0, 0), (65, .getfield 22, 68, 0, 113), (68, .ireturn, 69, 0, 0), (69, .aload_n 0, 70, 0, 0), (70, .getfield 28, 73, 0, 115), (73, .ireturn, 74, 0, 0), (74, .aload_n 0, 75, 0, 0), (75, .getfield 45, 78, 0, 96), (78, .ireturn, 79, 0, 0), (79, .aload_n 0, 80, 0, 0), (80, .getfield 48, 83, 0, 98), (83, .ireturn, 84, 0, 0)]
def MX0_answer : zMI := (yX0_answer, cX0_answer, 2, (some .int), [(99999, CX0_answer_0)], [])
theorem DX0_answer_0 : CX0_answer_0.all (zchk cX0_answer) = true := by decide +kernel
theorem OX0_answer : zMOK MX0_answer := by
  intro q hq e he
  simp only [MX0_answer, zFt, List.mem_cons, List.not_mem_nil, or_false] at hq
  rcases hq with rfl
  · exact List.all_eq_true.mp DX0_answer_0 e he
theorem KX0_answer : zMK MX0_answer := ⟨OX0_answer, by decide +kernel, z_in (List.mem_of_getElem? (i := 1020) (by decide +kernel)), z_in (List.mem_of_getElem? (i := 26) (by decide +kernel)), by decide +kernel, by decide +kernel⟩
theorem IX0_answer : Jvm.Cond.instanceMethod yX0_answer ∈ lw_tbl := z_in (List.mem_of_getElem? (i := 1018) (by decide +kernel))
theorem VX0_answer : Jvm.Cond.selects "ShadowWard$Block" yX0_answer yX0_answer ∈ lw_tbl := z_in (List.mem_of_getElem? (i := 1019) (by decide +kernel))
def CX1_init_0 : List zEn := [(0, .aload_n 0, 1, 0, 0), (1, .invokespecial 1, 4, 0, 117), (4, .aload_n 0, 5, 0, 0), (5, .new 7, 8, 0, 25), (8, .dup, 9, 0, 0), (9, .invokespecial 9, 12, 0, 118), (12, .putfield 10, 15, 0, 104), (15, .aload_n 0, 16, 0, 0), (16, .iload_n 1, 17, 0, 0), (17, .putfield 16, 20, 0, 100), (20, .aload_n 0, 21, 0, 0), (21, .iload_n 2, 22, 0, 0), (22, .putfield 20, 25, 0, 102), (25, .return_, 26, 0, 0)]
def MX1_init : zMI := (yX1_init, cX1_init, 3, none, [(99999, CX1_init_0)], [])
theorem DX1_init_0 : CX1_init_0.all (zchk cX1_init) = true := by decide +kernel
theorem OX1_init : zMOK MX1_init := by
  intro q hq e he
  simp only [MX1_init, zFt, List.mem_cons, List.not_mem_nil, or_false] at hq
  rcases hq with rfl
  · exact List.all_eq_true.mp DX1_init_0 e he
theorem KX1_init : zMK MX1_init := ⟨OX1_init, by decide +kernel, z_in (List.mem_of_getElem? (i := 692) (by decide +kernel)), z_in (List.mem_of_getElem? (i := 22) (by decide +kernel)), by decide +kernel, by decide +kernel⟩
theorem IX1_init : Jvm.Cond.instanceMethod yX1_init ∈ lw_tbl := z_in (List.mem_of_getElem? (i := 691) (by decide +kernel))
def CX2_init_0 : List zEn := [(0, .aload_n 0, 1, 0, 0), (1, .invokespecial 3, 4, 0, 14), (4, .aload_n 0, 5, 0, 0), (5, .new 9, 8, 0, 5), (8, .dup, 9, 0, 0), (9, .invokespecial 11, 12, 0, 15), (12, .putfield 12, 15, 0, 23), (15, .aload_n 0, 16, 0, 0), (16, .aload_n 1, 17, 0, 0), (17, .putfield 18, 20, 0, 22), (20, .return_, 21, 0, 0)]
def MX2_init : zMI := (yX2_init, cX2_init, 2, none, [(99999, CX2_init_0)], [])
theorem DX2_init_0 : CX2_init_0.all (zchk cX2_init) = true := by decide +kernel
theorem OX2_init : zMOK MX2_init := by
  intro q hq e he
  simp only [MX2_init, zFt, List.mem_cons, List.not_mem_nil, or_false] at hq
  rcases hq with rfl
  · exact List.all_eq_true.mp DX2_init_0 e he
theorem KX2_init : zMK MX2_init := ⟨OX2_init, by decide +kernel, z_in (List.mem_of_getElem? (i := 126) (by decide +kernel)), z_in (List.mem_of_getElem? (i := 8) (by decide +kernel)), by decide +kernel, by decide +kernel⟩
theorem IX2_init : Jvm.Cond.instanceMethod yX2_init ∈ lw_tbl := z_in (List.mem_of_getElem? (i := 125) (by decide +kernel))
def CX2_count_0 : List zEn := [(0, .aload_n 0, 1, 0, 0), (1, .getfield 12, 4, 0, 23), (4, .invokevirtual 22, 7, 0, 44), (7, .ireturn, 8, 0, 0)]
def MX2_count : zMI := (yX2_count, cX2_count, 1, (some .int), [(99999, CX2_count_0)], [])
theorem DX2_count_0 : CX2_count_0.all (zchk cX2_count) = true := by decide +kernel
theorem OX2_count : zMOK MX2_count := by
  intro q hq e he
  simp only [MX2_count, zFt, List.mem_cons, List.not_mem_nil, or_false] at hq
  rcases hq with rfl
  · exact List.all_eq_true.mp DX2_count_0 e he
theorem KX2_count : zMK MX2_count := ⟨OX2_count, by decide +kernel, z_in (List.mem_of_getElem? (i := 308) (by decide +kernel)), z_in (List.mem_of_getElem? (i := 8) (by decide +kernel)), by decide +kernel, by decide +kernel⟩
theorem IX2_count : Jvm.Cond.instanceMethod yX2_count ∈ lw_tbl := z_in (List.mem_of_getElem? (i := 306) (by decide +kernel))
theorem VX2_count : Jvm.Cond.selects "ShadowWard$Frames" yX2_count yX2_count ∈ lw_tbl := z_in (List.mem_of_getElem? (i := 307) (by decide +kernel))
def CX2_spanOf_0 : List zEn := [(0, .iload_n 0, 1, 0, 0), (1, .ifCond .ne 7, 4, 0, 8), (4, .iconst 0, 5, 0, 0), (5, .goto 12, 8, 0, 17), (8, .iload_n 0, 9, 0, 0), (9, .bipush 32, 11, 32, 0), (11, .invokestatic 26, 14, 0, 5), (14, .bipush 32, 16, 32, 0), (16, .iadd, 17, 0, 0), (17, .ireturn, 18, 0, 0)]
def MX2_spanOf : zMI := (yX2_spanOf, cX2_spanOf, 1, (some .int), [(99999, CX2_spanOf_0)], [])
theorem DX2_spanOf_0 : CX2_spanOf_0.all (zchk cX2_spanOf) = true := by decide +kernel
theorem OX2_spanOf : zMOK MX2_spanOf := by
  intro q hq e he
  simp only [MX2_spanOf, zFt, List.mem_cons, List.not_mem_nil, or_false] at hq
  rcases hq with rfl
  · exact List.all_eq_true.mp DX2_spanOf_0 e he
theorem KX2_spanOf : zMK MX2_spanOf := ⟨OX2_spanOf, by decide +kernel, z_in (List.mem_of_getElem? (i := 687) (by decide +kernel)), z_in (List.mem_of_getElem? (i := 8) (by decide +kernel)), by decide +kernel, by decide +kernel⟩
theorem SX2_spanOf : Jvm.Cond.static yX2_spanOf ∈ lw_tbl := z_in (List.mem_of_getElem? (i := 686) (by decide +kernel))
def CX2_push_0 : List zEn := [(0, .bipush 32, 2, 32, 0), (2, .iload_n 1, 3, 0, 0), (3, .invokestatic 30, 6, 0, 115), (6, .iadd, 7, 0, 0), (7, .iload_n 2, 8, 0, 0), (8, .invokestatic 30, 11, 0, 115), (11, .iadd, 12, 0, 0), (12, .iload_n 3, 13, 0, 0), (13, .invokestatic 30, 16, 0, 115), (16, .iadd, 17, 0, 0), (17, .iload 4, 19, 0, 0), (19, .invokestatic 30, 22, 0, 115), (22, .iadd, 23, 0, 0), (23, .istore 5, 25, 0, 0), (25, .aload_n 0, 26, 0, 0), (26, .invokevirtual 34, 29, 0, 43), (29, .ifCond .ne 13, 32, 0, 42), (32, .aload_n 0, 33, 0, 0), (33, .getfield 18, 36, 0, 22), (36, .getfield 37, 39, 0, 9), (39, .goto 22, 42, 0, 61), (42, .aload_n 0, 43, 0, 0), (43, .getfield 12, 46, 0, 23), (46, .aload_n 0, 47, 0, 0), (47, .invokevirtual 34, 50, 0, 43), (50, .iconst 1, 51, 1, 0), (51, .isub, 52, 0, 0), (52, .invokevirtual 43, 55, 0, 45), (55, .checkcast 47, 58, 0, 13), (58, .getfield 49, 61, 0, 101)]
def CX2_push_1 : List zEn := [(61, .istore 6, 63, 0, 0), (63, .iload 6, 65, 0, 0), (65, .iload 5, 67, 0, 0), (67, .isub, 68, 0, 0), (68, .istore 7, 70, 0, 0), (70, .iload 7, 72, 0, 0), (72, .aload_n 0, 73, 0, 0), (73, .getfield 18, 76, 0, 22), (76, .getfield 52, 79, 0, 5), (79, .if_icmp .ge 5, 82, 0, 84), (82, .iconst (-1), 83, (-1), 0), (83, .ireturn, 84, 0, 0), (84, .new 47, 87, 0, 13), (87, .dup, 88, 0, 0), (88, .iload 7, 90, 0, 0), (90, .iload 5, 92, 0, 0), (92, .invokespecial 55, 95, 0, 116), (95, .astore 8, 97, 0, 0), (97, .iload 7, 99, 0, 0), (99, .bipush 32, 101, 32, 0), (101, .iadd, 102, 0, 0), (102, .istore 9, 104, 0, 0), (104, .aload_n 0, 105, 0, 0), (105, .aload 8, 107, 0, 0), (107, .iload 9, 109, 0, 0), (109, .iload_n 1, 110, 0, 0), (110, .invokevirtual 58, 113, 0, 119), (113, .istore 9, 115, 0, 0), (115, .aload_n 0, 116, 0, 0), (116, .aload 8, 118, 0, 0)]
def CX2_push_2 : List zEn := [(118, .iload 9, 120, 0, 0), (120, .iload_n 2, 121, 0, 0), (121, .invokevirtual 58, 124, 0, 119), (124, .istore 9, 126, 0, 0), (126, .aload_n 0, 127, 0, 0), (127, .aload 8, 129, 0, 0), (129, .iload 9, 131, 0, 0), (131, .iload_n 3, 132, 0, 0), (132, .invokevirtual 58, 135, 0, 119), (135, .istore 9, 137, 0, 0), (137, .aload_n 0, 138, 0, 0), (138, .aload 8, 140, 0, 0), (140, .iload 9, 142, 0, 0), (142, .iload 4, 144, 0, 0), (144, .invokevirtual 58, 147, 0, 119), (147, .pop, 148, 0, 0), (148, .aload_n 0, 149, 0, 0), (149, .getfield 12, 152, 0, 23), (152, .aload 8, 154, 0, 0), (154, .invokevirtual 62, 157, 0, 122), (157, .pop, 158, 0, 0), (158, .aload_n 0, 159, 0, 0), (159, .aload 8, 161, 0, 0), (161, .invokevirtual 66, 164, 0, 123), (164, .iload 7, 166, 0, 0), (166, .ireturn, 167, 0, 0)]
def MX2_push : zMI := (yX2_push, cX2_push, 10, (some .int), [(61, CX2_push_0), (118, CX2_push_1), (99999, CX2_push_2)], [])
theorem DX2_push_0 : CX2_push_0.all (zchk cX2_push) = true := by decide +kernel
theorem DX2_push_1 : CX2_push_1.all (zchk cX2_push) = true := by decide +kernel
theorem DX2_push_2 : CX2_push_2.all (zchk cX2_push) = true := by decide +kernel
theorem OX2_push : zMOK MX2_push := by
  intro q hq e he
  simp only [MX2_push, zFt, List.mem_cons, List.not_mem_nil, or_false] at hq
  rcases hq with rfl | rfl | rfl
  · exact List.all_eq_true.mp DX2_push_0 e he
  · exact List.all_eq_true.mp DX2_push_1 e he
  · exact List.all_eq_true.mp DX2_push_2 e he
theorem KX2_push : zMK MX2_push := ⟨OX2_push, by decide +kernel, z_in (List.mem_of_getElem? (i := 684) (by decide +kernel)), z_in (List.mem_of_getElem? (i := 8) (by decide +kernel)), by decide +kernel, by decide +kernel⟩
theorem IX2_push : Jvm.Cond.instanceMethod yX2_push ∈ lw_tbl := z_in (List.mem_of_getElem? (i := 682) (by decide +kernel))
theorem VX2_push : Jvm.Cond.selects "ShadowWard$Frames" yX2_push yX2_push ∈ lw_tbl := z_in (List.mem_of_getElem? (i := 683) (by decide +kernel))
def CX2_addVariable_0 : List zEn := [(0, .iload_n 3, 1, 0, 0), (1, .ifCond .le 38, 4, 0, 39), (4, .iconst 4, 5, 4, 0), (5, .aload_n 0, 6, 0, 0), (6, .invokevirtual 34, 9, 0, 43), (9, .imul, 10, 0, 0), (10, .aload_n 1, 11, 0, 0), (11, .getfield 70, 14, 0, 106), (14, .invokevirtual 22, 17, 0, 44), (17, .iadd, 18, 0, 0), (18, .istore 4, 20, 0, 0), (20, .aload_n 1, 21, 0, 0), (21, .getfield 70, 24, 0, 106), (24, .new 73, 27, 0, 26), (27, .dup, 28, 0, 0), (28, .iload 4, 30, 0, 0), (30, .iload_n 2, 31, 0, 0), (31, .iload_n 3, 32, 0, 0), (32, .invokespecial 75, 35, 0, 120), (35, .invokevirtual 62, 38, 0, 122), (38, .pop, 39, 0, 0), (39, .iload_n 2, 40, 0, 0), (40, .iload_n 3, 41, 0, 0), (41, .invokestatic 30, 44, 0, 115), (44, .iadd, 45, 0, 0), (45, .ireturn, 46, 0, 0)]
def MX2_addVariable : zMI := (yX2_addVariable, cX2_addVariable, 5, (some .int), [(99999, CX2_addVariable_0)], [])
theorem DX2_addVariable_0 : CX2_addVariable_0.all (zchk cX2_addVariable) = true := by decide +kernel
theorem OX2_addVariable : zMOK MX2_addVariable := by
  intro q hq e he
  simp only [MX2_addVariable, zFt, List.mem_cons, List.not_mem_nil, or_false] at hq
  rcases hq with rfl
  · exact List.all_eq_true.mp DX2_addVariable_0 e he
theorem KX2_addVariable : zMK MX2_addVariable := ⟨OX2_addVariable, by decide +kernel, z_in (List.mem_of_getElem? (i := 714) (by decide +kernel)), z_in (List.mem_of_getElem? (i := 8) (by decide +kernel)), by decide +kernel, by decide +kernel⟩
theorem IX2_addVariable : Jvm.Cond.instanceMethod yX2_addVariable ∈ lw_tbl := z_in (List.mem_of_getElem? (i := 713) (by decide +kernel))
theorem VX2_addVariable : Jvm.Cond.selects "ShadowWard$Frames" yX2_addVariable yX2_addVariable ∈ lw_tbl := List.mem_append_left _ (List.mem_of_getElem? (i := 15) (by decide +kernel))
def CX2_paintFrame_0 : List zEn := [(0, .aload_n 0, 1, 0, 0), (1, .getfield 18, 4, 0, 22), (4, .aload_n 1, 5, 0, 0), (5, .getfield 49, 8, 0, 101), (8, .bipush 32, 10, 32, 0), (10, .sipush 241, 13, 241, 0), (13, .invokevirtual 78, 16, 0, 124), (16, .aload_n 1, 17, 0, 0), (17, .getfield 70, 20, 0, 106), (20, .invokevirtual 22, 23, 0, 44), (23, .iconst 1, 24, 1, 0), (24, .isub, 25, 0, 0), (25, .istore_n 2, 26, 0, 0), (26, .iconst 0, 27, 0, 0), (27, .istore_n 3, 28, 0, 0), (28, .iload_n 3, 29, 0, 0), (29, .iload_n 2, 30, 0, 0), (30, .if_icmp .gt 77, 33, 0, 107), (33, .aload_n 1, 34, 0, 0), (34, .getfield 70, 37, 0, 106), (37, .iload_n 3, 38, 0, 0), (38, .invokevirtual 43, 41, 0, 45), (41, .checkcast 73, 44, 0, 26), (44, .astore 4, 46, 0, 0), (46, .iload_n 3, 47, 0, 0), (47, .iload_n 2, 48, 0, 0), (48, .if_icmp .ne 9, 51, 0, 57), (51, .sipush 243, 54, 243, 0), (54, .goto 6, 57, 0, 60), (57, .sipush 242, 60, 242, 0)]
def CX2_paintFrame_1 : List zEn := [(60, .istore 5, 62, 0, 0), (62, .aload_n 0, 63, 0, 0), (63, .getfield 18, 66, 0, 22), (66, .aload 4, 68, 0, 0), (68, .getfield 81, 71, 0, 81), (71, .aload 4, 73, 0, 0), (73, .getfield 82, 76, 0, 88), (76, .invokestatic 30, 79, 0, 115), (79, .iload 5, 81, 0, 0), (81, .invokevirtual 78, 84, 0, 124), (84, .aload_n 0, 85, 0, 0), (85, .getfield 18, 88, 0, 22), (88, .aload 4, 90, 0, 0), (90, .getfield 81, 93, 0, 81), (93, .aload 4, 95, 0, 0), (95, .getfield 82, 98, 0, 88), (98, .invokevirtual 84, 101, 0, 125), (101, .iinc 3 1, 104, 1, 0), (104, .goto (-76), 107, 0, 28), (107, .return_, 108, 0, 0)]
def MX2_paintFrame : zMI := (yX2_paintFrame, cX2_paintFrame, 6, none, [(60, CX2_paintFrame_0), (99999, CX2_paintFrame_1)], [])
theorem DX2_paintFrame_0 : CX2_paintFrame_0.all (zchk cX2_paintFrame) = true := by decide +kernel
theorem DX2_paintFrame_1 : CX2_paintFrame_1.all (zchk cX2_paintFrame) = true := by decide +kernel
theorem OX2_paintFrame : zMOK MX2_paintFrame := by
  intro q hq e he
  simp only [MX2_paintFrame, zFt, List.mem_cons, List.not_mem_nil, or_false] at hq
  rcases hq with rfl | rfl
  · exact List.all_eq_true.mp DX2_paintFrame_0 e he
  · exact List.all_eq_true.mp DX2_paintFrame_1 e he
theorem KX2_paintFrame : zMK MX2_paintFrame := ⟨OX2_paintFrame, by decide +kernel, z_in (List.mem_of_getElem? (i := 738) (by decide +kernel)), z_in (List.mem_of_getElem? (i := 8) (by decide +kernel)), by decide +kernel, by decide +kernel⟩
theorem IX2_paintFrame : Jvm.Cond.instanceMethod yX2_paintFrame ∈ lw_tbl := z_in (List.mem_of_getElem? (i := 737) (by decide +kernel))
theorem VX2_paintFrame : Jvm.Cond.selects "ShadowWard$Frames" yX2_paintFrame yX2_paintFrame ∈ lw_tbl := List.mem_append_left _ (List.mem_of_getElem? (i := 16) (by decide +kernel))
def CX2_pop_0 : List zEn := [(0, .aload_n 0, 1, 0, 0), (1, .invokevirtual 34, 4, 0, 43), (4, .ifCond .le 38, 7, 0, 42), (7, .aload_n 0, 8, 0, 0), (8, .getfield 12, 11, 0, 23), (11, .aload_n 0, 12, 0, 0), (12, .invokevirtual 34, 15, 0, 43), (15, .iconst 1, 16, 1, 0), (16, .isub, 17, 0, 0), (17, .invokevirtual 87, 20, 0, 132), (20, .checkcast 47, 23, 0, 13), (23, .astore_n 1, 24, 0, 0), (24, .aload_n 0, 25, 0, 0), (25, .getfield 18, 28, 0, 22), (28, .aload_n 1, 29, 0, 0), (29, .getfield 49, 32, 0, 101), (32, .aload_n 1, 33, 0, 0), (33, .getfield 90, 36, 0, 103), (36, .sipush 245, 39, 245, 0), (39, .invokevirtual 78, 42, 0, 124), (42, .return_, 43, 0, 0)]
def MX2_pop : zMI := (yX2_pop, cX2_pop, 2, none, [(99999, CX2_pop_0)], [])
theorem DX2_pop_0 : CX2_pop_0.all (zchk cX2_pop) = true := by decide +kernel
theorem OX2_pop : zMOK MX2_pop := by
  intro q hq e he
  simp only [MX2_pop, zFt, List.mem_cons, List.not_mem_nil, or_false] at hq
  rcases hq with rfl
  · exact List.all_eq_true.mp DX2_pop_0 e he
theorem KX2_pop : zMK MX2_pop := ⟨OX2_pop, by decide +kernel, z_in (List.mem_of_getElem? (i := 769) (by decide +kernel)), z_in (List.mem_of_getElem? (i := 8) (by decide +kernel)), by decide +kernel, by decide +kernel⟩
theorem IX2_pop : Jvm.Cond.instanceMethod yX2_pop ∈ lw_tbl := z_in (List.mem_of_getElem? (i := 767) (by decide +kernel))
theorem VX2_pop : Jvm.Cond.selects "ShadowWard$Frames" yX2_pop yX2_pop ∈ lw_tbl := z_in (List.mem_of_getElem? (i := 768) (by decide +kernel))
def CX2_setScope_0 : List zEn := [(0, .aload_n 1, 1, 0, 0), (1, .getfield 93, 4, 0, 110), (4, .iload_n 2, 5, 0, 0), (5, .if_icmp .ne 5, 8, 0, 10), (8, .iconst 0, 9, 0, 0), (9, .ireturn, 10, 0, 0), (10, .aload_n 1, 11, 0, 0), (11, .iload_n 2, 12, 0, 0), (12, .putfield 93, 15, 0, 110), (15, .iload_n 2, 16, 0, 0), (16, .ifCond .eq 21, 19, 0, 37), (19, .aload_n 0, 20, 0, 0), (20, .getfield 18, 23, 0, 22), (23, .aload_n 1, 24, 0, 0), (24, .getfield 81, 27, 0, 81), (27, .aload_n 1, 28, 0, 0), (28, .getfield 82, 31, 0, 88), (31, .invokevirtual 84, 34, 0, 125), (34, .goto 21, 37, 0, 55), (37, .aload_n 0, 38, 0, 0), (38, .getfield 18, 41, 0, 22), (41, .aload_n 1, 42, 0, 0), (42, .getfield 81, 45, 0, 81), (45, .aload_n 1, 46, 0, 0), (46, .getfield 82, 49, 0, 88), (49, .sipush 248, 52, 248, 0), (52, .invokevirtual 78, 55, 0, 124), (55, .iconst 1, 56, 1, 0), (56, .ireturn, 57, 0, 0)]
def MX2_setScope : zMI := (yX2_setScope, cX2_setScope, 3, (some .boolean), [(99999, CX2_setScope_0)], [])
theorem DX2_setScope_0 : CX2_setScope_0.all (zchk cX2_setScope) = true := by decide +kernel
theorem OX2_setScope : zMOK MX2_setScope := by
  intro q hq e he
  simp only [MX2_setScope, zFt, List.mem_cons, List.not_mem_nil, or_false] at hq
  rcases hq with rfl
  · exact List.all_eq_true.mp DX2_setScope_0 e he
theorem KX2_setScope : zMK MX2_setScope := ⟨OX2_setScope, by decide +kernel, z_in (List.mem_of_getElem? (i := 816) (by decide +kernel)), z_in (List.mem_of_getElem? (i := 8) (by decide +kernel)), by decide +kernel, by decide +kernel⟩
theorem IX2_setScope : Jvm.Cond.instanceMethod yX2_setScope ∈ lw_tbl := z_in (List.mem_of_getElem? (i := 814) (by decide +kernel))
theorem VX2_setScope : Jvm.Cond.selects "ShadowWard$Frames" yX2_setScope yX2_setScope ∈ lw_tbl := z_in (List.mem_of_getElem? (i := 815) (by decide +kernel))
def CX2_nearestTo_0 : List zEn := [(0, .aconst_null, 1, 0, 0), (1, .astore_n 2, 2, 0, 0), (2, .iconst 0, 3, 0, 0), (3, .istore_n 3, 4, 0, 0), (4, .iload_n 3, 5, 0, 0), (5, .aload_n 0, 6, 0, 0), (6, .invokevirtual 34, 9, 0, 43), (9, .if_icmp .ge 60, 12, 0, 69), (12, .aload_n 0, 13, 0, 0), (13, .getfield 12, 16, 0, 23), (16, .iload_n 3, 17, 0, 0), (17, .invokevirtual 43, 20, 0, 45), (20, .checkcast 47, 23, 0, 13), (23, .getfield 70, 26, 0, 106), (26, .astore 4, 28, 0, 0), (28, .iconst 0, 29, 0, 0), (29, .istore 5, 31, 0, 0), (31, .iload 5, 33, 0, 0), (33, .aload 4, 35, 0, 0), (35, .invokevirtual 22, 38, 0, 44), (38, .if_icmp .ge 25, 41, 0, 63), (41, .aload_n 2, 42, 0, 0), (42, .aload 4, 44, 0, 0), (44, .iload 5, 46, 0, 0), (46, .invokevirtual 43, 49, 0, 45), (49, .checkcast 97, 52, 0, 14), (52, .iload_n 1, 53, 0, 0), (53, .invokestatic 99, 56, 0, 2), (56, .astore_n 2, 57, 0, 0), (57, .iinc 5 1, 60, 1, 0)]
def CX2_nearestTo_1 : List zEn := [(60, .goto (-29), 63, 0, 31), (63, .iinc 3 1, 66, 1, 0), (66, .goto (-62), 69, 0, 4), (69, .aload_n 2, 70, 0, 0), (70, .areturn, 71, 0, 0)]
def MX2_nearestTo : zMI := (yX2_nearestTo, cX2_nearestTo, 6, (some (.object "ShadowWard$Region")), [(60, CX2_nearestTo_0), (99999, CX2_nearestTo_1)], [])
theorem DX2_nearestTo_0 : CX2_nearestTo_0.all (zchk cX2_nearestTo) = true := by decide +kernel
theorem DX2_nearestTo_1 : CX2_nearestTo_1.all (zchk cX2_nearestTo) = true := by decide +kernel
theorem OX2_nearestTo : zMOK MX2_nearestTo := by
  intro q hq e he
  simp only [MX2_nearestTo, zFt, List.mem_cons, List.not_mem_nil, or_false] at hq
  rcases hq with rfl | rfl
  · exact List.all_eq_true.mp DX2_nearestTo_0 e he
  · exact List.all_eq_true.mp DX2_nearestTo_1 e he
theorem KX2_nearestTo : zMK MX2_nearestTo := ⟨OX2_nearestTo, by decide +kernel, z_in (List.mem_of_getElem? (i := 304) (by decide +kernel)), z_in (List.mem_of_getElem? (i := 8) (by decide +kernel)), by decide +kernel, by decide +kernel⟩
theorem IX2_nearestTo : Jvm.Cond.instanceMethod yX2_nearestTo ∈ lw_tbl := z_in (List.mem_of_getElem? (i := 302) (by decide +kernel))
theorem VX2_nearestTo : Jvm.Cond.selects "ShadowWard$Frames" yX2_nearestTo yX2_nearestTo ∈ lw_tbl := z_in (List.mem_of_getElem? (i := 303) (by decide +kernel))
def CX3_init_0 : List zEn := [(0, .aload_n 0, 1, 0, 0), (1, .invokespecial 3, 4, 0, 8), (4, .aload_n 0, 5, 0, 0), (5, .new 9, 8, 0, 3), (8, .dup, 9, 0, 0), (9, .invokespecial 11, 12, 0, 9), (12, .putfield 12, 15, 0, 19), (15, .aload_n 0, 16, 0, 0), (16, .aload_n 1, 17, 0, 0), (17, .putfield 18, 20, 0, 18), (20, .return_, 21, 0, 0)]
def MX3_init : zMI := (yX3_init, cX3_init, 2, none, [(99999, CX3_init_0)], [])
theorem DX3_init_0 : CX3_init_0.all (zchk cX3_init) = true := by decide +kernel
theorem OX3_init : zMOK MX3_init := by
  intro q hq e he
  simp only [MX3_init, zFt, List.mem_cons, List.not_mem_nil, or_false] at hq
  rcases hq with rfl
  · exact List.all_eq_true.mp DX3_init_0 e he
theorem KX3_init : zMK MX3_init := ⟨OX3_init, by decide +kernel, z_in (List.mem_of_getElem? (i := 85) (by decide +kernel)), z_in (List.mem_of_getElem? (i := 4) (by decide +kernel)), by decide +kernel, by decide +kernel⟩
theorem IX3_init : Jvm.Cond.instanceMethod yX3_init ∈ lw_tbl := z_in (List.mem_of_getElem? (i := 84) (by decide +kernel))
def CX3_place_0 : List zEn := [(0, .aload_n 0, 1, 0, 0), (1, .invokevirtual 22, 4, 0, 106), (4, .istore_n 2, 5, 0, 0), (5, .iload_n 2, 6, 0, 0), (6, .iload_n 1, 7, 0, 0), (7, .iadd, 8, 0, 0), (8, .bipush 32, 10, 32, 0), (10, .iadd, 11, 0, 0), (11, .aload_n 0, 12, 0, 0), (12, .getfield 18, 15, 0, 18), (15, .getfield 26, 18, 0, 4), (18, .if_icmp .le 5, 21, 0, 23), (21, .iconst (-1), 22, (-1), 0), (22, .ireturn, 23, 0, 0), (23, .aload_n 0, 24, 0, 0), (24, .getfield 12, 27, 0, 19), (27, .new 32, 30, 0, 12), (30, .dup, 31, 0, 0), (31, .iconst 1, 32, 1, 0), (32, .aload_n 0, 33, 0, 0), (33, .getfield 12, 36, 0, 19), (36, .invokevirtual 34, 39, 0, 35), (39, .iload_n 2, 40, 0, 0), (40, .iload_n 1, 41, 0, 0), (41, .iconst 0, 42, 0, 0), (42, .invokespecial 37, 45, 0, 107), (45, .invokevirtual 40, 48, 0, 109), (48, .pop, 49, 0, 0), (49, .aload_n 0, 50, 0, 0), (50, .getfield 18, 53, 0, 18)]
def CX3_place_1 : List zEn := [(53, .iload_n 2, 54, 0, 0), (54, .iload_n 1, 55, 0, 0), (55, .invokevirtual 44, 58, 0, 110), (58, .iload_n 2, 59, 0, 0), (59, .ireturn, 60, 0, 0)]
def MX3_place : zMI := (yX3_place, cX3_place, 3, (some .int), [(53, CX3_place_0), (99999, CX3_place_1)], [])
theorem DX3_place_0 : CX3_place_0.all (zchk cX3_place) = true := by decide +kernel
theorem DX3_place_1 : CX3_place_1.all (zchk cX3_place) = true := by decide +kernel
theorem OX3_place : zMOK MX3_place := by
  intro q hq e he
  simp only [MX3_place, zFt, List.mem_cons, List.not_mem_nil, or_false] at hq
  rcases hq with rfl | rfl
  · exact List.all_eq_true.mp DX3_place_0 e he
  · exact List.all_eq_true.mp DX3_place_1 e he
theorem KX3_place : zMK MX3_place := ⟨OX3_place, by decide +kernel, z_in (List.mem_of_getElem? (i := 603) (by decide +kernel)), z_in (List.mem_of_getElem? (i := 4) (by decide +kernel)), by decide +kernel, by decide +kernel⟩
theorem IX3_place : Jvm.Cond.instanceMethod yX3_place ∈ lw_tbl := z_in (List.mem_of_getElem? (i := 601) (by decide +kernel))
theorem VX3_place : Jvm.Cond.selects "ShadowWard$Globals" yX3_place yX3_place ∈ lw_tbl := z_in (List.mem_of_getElem? (i := 602) (by decide +kernel))
def CX3_nextAddress_0 : List zEn := [(0, .aload_n 0, 1, 0, 0), (1, .getfield 12, 4, 0, 19), (4, .invokevirtual 34, 7, 0, 35), (7, .istore_n 1, 8, 0, 0), (8, .iload_n 1, 9, 0, 0), (9, .ifCond .ne 7, 12, 0, 16), (12, .iconst 0, 13, 0, 0), (13, .goto 27, 16, 0, 40), (16, .aload_n 0, 17, 0, 0), (17, .getfield 12, 20, 0, 19), (20, .iload_n 1, 21, 0, 0), (21, .iconst 1, 22, 1, 0), (22, .isub, 23, 0, 0), (23, .invokevirtual 48, 26, 0, 36), (26, .checkcast 32, 29, 0, 12), (29, .getfield 52, 32, 0, 91), (32, .bipush 32, 34, 32, 0), (34, .iadd, 35, 0, 0), (35, .bipush 32, 37, 32, 0), (37, .invokestatic 55, 40, 0, 4), (40, .ireturn, 41, 0, 0)]
def MX3_nextAddress : zMI := (yX3_nextAddress, cX3_nextAddress, 2, (some .int), [(99999, CX3_nextAddress_0)], [])
theorem DX3_nextAddress_0 : CX3_nextAddress_0.all (zchk cX3_nextAddress) = true := by decide +kernel
theorem OX3_nextAddress : zMOK MX3_nextAddress := by
  intro q hq e he
  simp only [MX3_nextAddress, zFt, List.mem_cons, List.not_mem_nil, or_false] at hq
  rcases hq with rfl
  · exact List.all_eq_true.mp DX3_nextAddress_0 e he
theorem KX3_nextAddress : zMK MX3_nextAddress := ⟨OX3_nextAddress, by decide +kernel, z_in (List.mem_of_getElem? (i := 607) (by decide +kernel)), z_in (List.mem_of_getElem? (i := 4) (by decide +kernel)), by decide +kernel, by decide +kernel⟩
theorem IX3_nextAddress : Jvm.Cond.instanceMethod yX3_nextAddress ∈ lw_tbl := z_in (List.mem_of_getElem? (i := 606) (by decide +kernel))
theorem VX3_nextAddress : Jvm.Cond.selects "ShadowWard$Globals" yX3_nextAddress yX3_nextAddress ∈ lw_tbl := List.mem_append_left _ (List.mem_of_getElem? (i := 14) (by decide +kernel))
def CX3_nearestTo_0 : List zEn := [(0, .aconst_null, 1, 0, 0), (1, .astore_n 2, 2, 0, 0), (2, .iconst 0, 3, 0, 0), (3, .istore_n 3, 4, 0, 0), (4, .iload_n 3, 5, 0, 0), (5, .aload_n 0, 6, 0, 0), (6, .getfield 12, 9, 0, 19), (9, .invokevirtual 34, 12, 0, 35), (12, .if_icmp .ge 26, 15, 0, 38), (15, .aload_n 2, 16, 0, 0), (16, .aload_n 0, 17, 0, 0), (17, .getfield 12, 20, 0, 19), (20, .iload_n 3, 21, 0, 0), (21, .invokevirtual 48, 24, 0, 36), (24, .checkcast 32, 27, 0, 12), (27, .iload_n 1, 28, 0, 0), (28, .invokestatic 59, 31, 0, 1), (31, .astore_n 2, 32, 0, 0), (32, .iinc 3 1, 35, 1, 0), (35, .goto (-31), 38, 0, 4), (38, .aload_n 2, 39, 0, 0), (39, .areturn, 40, 0, 0)]
def MX3_nearestTo : zMI := (yX3_nearestTo, cX3_nearestTo, 4, (some (.object "ShadowWard$Region")), [(99999, CX3_nearestTo_0)], [])
theorem DX3_nearestTo_0 : CX3_nearestTo_0.all (zchk cX3_nearestTo) = true := by decide +kernel
theorem OX3_nearestTo : zMOK MX3_nearestTo := by
  intro q hq e he
  simp only [MX3_nearestTo, zFt, List.mem_cons, List.not_mem_nil, or_false] at hq
  rcases hq with rfl
  · exact List.all_eq_true.mp DX3_nearestTo_0 e he
theorem KX3_nearestTo : zMK MX3_nearestTo := ⟨OX3_nearestTo, by decide +kernel, z_in (List.mem_of_getElem? (i := 271) (by decide +kernel)), z_in (List.mem_of_getElem? (i := 4) (by decide +kernel)), by decide +kernel, by decide +kernel⟩
theorem IX3_nearestTo : Jvm.Cond.instanceMethod yX3_nearestTo ∈ lw_tbl := z_in (List.mem_of_getElem? (i := 269) (by decide +kernel))
theorem VX3_nearestTo : Jvm.Cond.selects "ShadowWard$Globals" yX3_nearestTo yX3_nearestTo ∈ lw_tbl := z_in (List.mem_of_getElem? (i := 270) (by decide +kernel))
def CX4_init_0 : List zEn := [(0, .aload_n 0, 1, 0, 0), (1, .invokespecial 3, 4, 0, 17), (4, .aload_n 0, 5, 0, 0), (5, .new 9, 8, 0, 7), (8, .dup, 9, 0, 0), (9, .invokespecial 11, 12, 0, 18), (12, .putfield 12, 15, 0, 29), (15, .aload_n 0, 16, 0, 0), (16, .new 9, 19, 0, 7), (19, .dup, 20, 0, 0), (20, .invokespecial 11, 23, 0, 18), (23, .putfield 18, 26, 0, 32), (26, .aload_n 0, 27, 0, 0), (27, .iconst 0, 28, 0, 0), (28, .putfield 21, 31, 0, 35), (31, .aload_n 0, 32, 0, 0), (32, .iconst 0, 33, 0, 0), (33, .putfield 25, 36, 0, 38), (36, .aload_n 0, 37, 0, 0), (37, .iconst 0, 38, 0, 0), (38, .putfield 28, 41, 0, 40), (41, .aload_n 0, 42, 0, 0), (42, .aload_n 1, 43, 0, 0), (43, .putfield 31, 46, 0, 26), (46, .aload_n 0, 47, 0, 0), (47, .iload_n 2, 48, 0, 0), (48, .ifCond .lt 15, 51, 0, 63), (51, .iload_n 2, 52, 0, 0), (52, .aload_n 1, 53, 0, 0), (53, .getfield 35, 56, 0, 1)]
def CX4_init_1 : List zEn := [(56, .if_icmp .gt 7, 59, 0, 63), (59, .iload_n 2, 60, 0, 0), (60, .goto 6, 63, 0, 66), (63, .sipush 1024, 66, 1024, 0), (66, .putfield 40, 69, 0, 27), (69, .aload_n 0, 70, 0, 0), (70, .aload_n 1, 71, 0, 0), (71, .getfield 35, 74, 0, 1), (74, .aload_n 1, 75, 0, 0), (75, .getfield 43, 78, 0, 8), (78, .isub, 79, 0, 0), (79, .bipush 16, 81, 16, 0), (81, .idiv, 82, 0, 0), (82, .anewarray 46, 85, 0, 8), (85, .putfield 48, 88, 0, 34), (88, .return_, 89, 0, 0)]
def MX4_init : zMI := (yX4_init, cX4_init, 3, none, [(56, CX4_init_0), (99999, CX4_init_1)], [])
theorem DX4_init_0 : CX4_init_0.all (zchk cX4_init) = true := by decide +kernel
theorem DX4_init_1 : CX4_init_1.all (zchk cX4_init) = true := by decide +kernel
theorem OX4_init : zMOK MX4_init := by
  intro q hq e he
  simp only [MX4_init, zFt, List.mem_cons, List.not_mem_nil, or_false] at hq
  rcases hq with rfl | rfl
  · exact List.all_eq_true.mp DX4_init_0 e he
  · exact List.all_eq_true.mp DX4_init_1 e he
theorem KX4_init : zMK MX4_init := ⟨OX4_init, by decide +kernel, z_in (List.mem_of_getElem? (i := 143) (by decide +kernel)), z_in (List.mem_of_getElem? (i := 9) (by decide +kernel)), by decide +kernel, by decide +kernel⟩
theorem IX4_init : Jvm.Cond.instanceMethod yX4_init ∈ lw_tbl := z_in (List.mem_of_getElem? (i := 142) (by decide +kernel))
def CX4_give_0 : List zEn := [(0, .aload_n 0, 1, 0, 0), (1, .getfield 12, 4, 0, 29), (4, .invokevirtual 52, 7, 0, 47), (7, .sipush 512, 10, 512, 0), (10, .if_icmp .lt 5, 13, 0, 15), (13, .aconst_null, 14, 0, 0), (14, .areturn, 15, 0, 0), (15, .aload_n 0, 16, 0, 0), (16, .iload_n 2, 17, 0, 0), (17, .invokestatic 55, 20, 0, 149), (20, .bipush 16, 22, 16, 0), (22, .idiv, 23, 0, 0), (23, .invokevirtual 59, 26, 0, 151), (26, .istore 4, 28, 0, 0), (28, .iload 4, 30, 0, 0), (30, .iconst (-1), 31, (-1), 0), (31, .if_icmp .ne 5, 34, 0, 36), (34, .aconst_null, 35, 0, 0), (35, .areturn, 36, 0, 0), (36, .new 46, 39, 0, 8), (39, .dup, 40, 0, 0), (40, .aload_n 0, 41, 0, 0), (41, .getfield 12, 44, 0, 29), (44, .invokevirtual 52, 47, 0, 47), (47, .iload_n 1, 48, 0, 0), (48, .iload_n 2, 49, 0, 0), (49, .iload_n 3, 50, 0, 0), (50, .aload_n 0, 51, 0, 0), (51, .getfield 31, 54, 0, 26), (54, .getfield 43, 57, 0, 8)]
def CX4_give_1 : List zEn := [(57, .iload 4, 59, 0, 0), (59, .bipush 16, 61, 16, 0), (61, .imul, 62, 0, 0), (62, .iadd, 63, 0, 0), (63, .invokespecial 62, 66, 0, 160), (66, .astore 5, 68, 0, 0), (68, .aload_n 0, 69, 0, 0), (69, .getfield 12, 72, 0, 29), (72, .aload 5, 74, 0, 0), (74, .invokevirtual 65, 77, 0, 163), (77, .pop, 78, 0, 0), (78, .aload_n 0, 79, 0, 0), (79, .aload 5, 81, 0, 0), (81, .aload 5, 83, 0, 0), (83, .invokevirtual 69, 86, 0, 157), (86, .aload_n 0, 87, 0, 0), (87, .dup, 88, 0, 0), (88, .getfield 21, 91, 0, 35), (91, .iconst 1, 92, 1, 0), (92, .iadd, 93, 0, 0), (93, .putfield 21, 96, 0, 35), (96, .aload_n 0, 97, 0, 0), (97, .dup, 98, 0, 0), (98, .getfield 25, 101, 0, 38), (101, .aload 5, 103, 0, 0), (103, .getfield 73, 106, 0, 116), (106, .iadd, 107, 0, 0), (107, .putfield 25, 110, 0, 38), (110, .aload_n 0, 111, 0, 0), (111, .getfield 31, 114, 0, 26)]
def CX4_give_2 : List zEn := [(114, .aload 5, 116, 0, 0), (116, .getfield 76, 119, 0, 77), (119, .iload_n 2, 120, 0, 0), (120, .sipush 190, 123, 190, 0), (123, .invokevirtual 79, 126, 0, 164), (126, .aload_n 0, 127, 0, 0), (127, .getfield 31, 130, 0, 26), (130, .aload 5, 132, 0, 0), (132, .getfield 83, 135, 0, 114), (135, .aload 5, 137, 0, 0), (137, .getfield 73, 140, 0, 116), (140, .sipush 250, 143, 250, 0), (143, .invokevirtual 86, 146, 0, 156), (146, .aload_n 0, 147, 0, 0), (147, .getfield 31, 150, 0, 26), (150, .aload 5, 152, 0, 0), (152, .getfield 76, 155, 0, 77), (155, .iload_n 2, 156, 0, 0), (156, .invokevirtual 89, 159, 0, 165), (159, .aload 5, 161, 0, 0), (161, .areturn, 162, 0, 0)]
def MX4_give : zMI := (yX4_give, cX4_give, 6, (some (.object "ShadowWard$Block")), [(57, CX4_give_0), (114, CX4_give_1), (99999, CX4_give_2)], [])
theorem DX4_give_0 : CX4_give_0.all (zchk cX4_give) = true := by decide +kernel
theorem DX4_give_1 : CX4_give_1.all (zchk cX4_give) = true := by decide +kernel
theorem DX4_give_2 : CX4_give_2.all (zchk cX4_give) = true := by decide +kernel
theorem OX4_give : zMOK MX4_give := by
  intro q hq e he
  simp only [MX4_give, zFt, List.mem_cons, List.not_mem_nil, or_false] at hq
  rcases hq with rfl | rfl | rfl
  · exact List.all_eq_true.mp DX4_give_0 e he
  · exact List.all_eq_true.mp DX4_give_1 e he
  · exact List.all_eq_true.mp DX4_give_2 e he
theorem KX4_give : zMK MX4_give := ⟨OX4_give, by decide +kernel, z_in (List.mem_of_getElem? (i := 837) (by decide +kernel)), z_in (List.mem_of_getElem? (i := 9) (by decide +kernel)), by decide +kernel, by decide +kernel⟩
theorem IX4_give : Jvm.Cond.instanceMethod yX4_give ∈ lw_tbl := z_in (List.mem_of_getElem? (i := 835) (by decide +kernel))
theorem VX4_give : Jvm.Cond.selects "ShadowWard$Heap" yX4_give yX4_give ∈ lw_tbl := z_in (List.mem_of_getElem? (i := 836) (by decide +kernel))
def CX4_unitWithRoom_0 : List zEn := [(0, .aload_n 0, 1, 0, 0), (1, .iload_n 1, 2, 0, 0), (2, .invokevirtual 93, 5, 0, 152), (5, .istore_n 2, 6, 0, 0), (6, .aload_n 0, 7, 0, 0), (7, .getfield 18, 10, 0, 32), (10, .invokevirtual 52, 13, 0, 47), (13, .istore_n 3, 14, 0, 0), (14, .iload_n 3, 15, 0, 0), (15, .ifCond .le 24, 18, 0, 39), (18, .iload_n 2, 19, 0, 0), (19, .iconst (-1), 20, (-1), 0), (20, .if_icmp .ne 19, 23, 0, 39), (23, .aload_n 0, 24, 0, 0), (24, .invokevirtual 96, 27, 0, 153), (27, .aload_n 0, 28, 0, 0), (28, .iload_n 1, 29, 0, 0), (29, .invokevirtual 93, 32, 0, 152), (32, .istore_n 2, 33, 0, 0), (33, .iinc 3 (-1), 36, (-1), 0), (36, .goto (-22), 39, 0, 14), (39, .iload_n 2, 40, 0, 0), (40, .ireturn, 41, 0, 0)]
def MX4_unitWithRoom : zMI := (yX4_unitWithRoom, cX4_unitWithRoom, 4, (some .int), [(99999, CX4_unitWithRoom_0)], [])
theorem DX4_unitWithRoom_0 : CX4_unitWithRoom_0.all (zchk cX4_unitWithRoom) = true := by decide +kernel
theorem OX4_unitWithRoom : zMOK MX4_unitWithRoom := by
  intro q hq e he
  simp only [MX4_unitWithRoom, zFt, List.mem_cons, List.not_mem_nil, or_false] at hq
  rcases hq with rfl
  · exact List.all_eq_true.mp DX4_unitWithRoom_0 e he
theorem KX4_unitWithRoom : zMK MX4_unitWithRoom := ⟨OX4_unitWithRoom, by decide +kernel, z_in (List.mem_of_getElem? (i := 848) (by decide +kernel)), z_in (List.mem_of_getElem? (i := 9) (by decide +kernel)), by decide +kernel, by decide +kernel⟩
theorem IX4_unitWithRoom : Jvm.Cond.instanceMethod yX4_unitWithRoom ∈ lw_tbl := z_in (List.mem_of_getElem? (i := 847) (by decide +kernel))
theorem VX4_unitWithRoom : Jvm.Cond.selects "ShadowWard$Heap" yX4_unitWithRoom yX4_unitWithRoom ∈ lw_tbl := List.mem_append_left _ (List.mem_of_getElem? (i := 19) (by decide +kernel))
def CX4_firstFreeRun_0 : List zEn := [(0, .iconst 0, 1, 0, 0), (1, .istore_n 2, 2, 0, 0), (2, .iconst 0, 3, 0, 0), (3, .istore_n 3, 4, 0, 0), (4, .iload_n 3, 5, 0, 0), (5, .aload_n 0, 6, 0, 0), (6, .getfield 48, 9, 0, 34), (9, .arraylength, 10, 0, 0), (10, .if_icmp .ge 37, 13, 0, 47), (13, .aload_n 0, 14, 0, 0), (14, .getfield 48, 17, 0, 34), (17, .iload_n 3, 18, 0, 0), (18, .aaload, 19, 0, 0), (19, .ifnonnull 9, 22, 0, 28), (22, .iload_n 2, 23, 0, 0), (23, .iconst 1, 24, 1, 0), (24, .iadd, 25, 0, 0), (25, .goto 4, 28, 0, 29), (28, .iconst 0, 29, 0, 0), (29, .istore_n 2, 30, 0, 0), (30, .iload_n 2, 31, 0, 0), (31, .iload_n 1, 32, 0, 0), (32, .if_icmp .ne 9, 35, 0, 41), (35, .iload_n 3, 36, 0, 0), (36, .iload_n 1, 37, 0, 0), (37, .isub, 38, 0, 0), (38, .iconst 1, 39, 1, 0), (39, .iadd, 40, 0, 0), (40, .ireturn, 41, 0, 0), (41, .iinc 3 1, 44, 1, 0)]
def CX4_firstFreeRun_1 : List zEn := [(44, .goto (-40), 47, 0, 4), (47, .iconst (-1), 48, (-1), 0), (48, .ireturn, 49, 0, 0)]
def MX4_firstFreeRun : zMI := (yX4_firstFreeRun, cX4_firstFreeRun, 4, (some .int), [(44, CX4_firstFreeRun_0), (99999, CX4_firstFreeRun_1)], [])
theorem DX4_firstFreeRun_0 : CX4_firstFreeRun_0.all (zchk cX4_firstFreeRun) = true := by decide +kernel
theorem DX4_firstFreeRun_1 : CX4_firstFreeRun_1.all (zchk cX4_firstFreeRun) = true := by decide +kernel
theorem OX4_firstFreeRun : zMOK MX4_firstFreeRun := by
  intro q hq e he
  simp only [MX4_firstFreeRun, zFt, List.mem_cons, List.not_mem_nil, or_false] at hq
  rcases hq with rfl | rfl
  · exact List.all_eq_true.mp DX4_firstFreeRun_0 e he
  · exact List.all_eq_true.mp DX4_firstFreeRun_1 e he
theorem KX4_firstFreeRun : zMK MX4_firstFreeRun := ⟨OX4_firstFreeRun, by decide +kernel, z_in (List.mem_of_getElem? (i := 852) (by decide +kernel)), z_in (List.mem_of_getElem? (i := 9) (by decide +kernel)), by decide +kernel, by decide +kernel⟩
theorem IX4_firstFreeRun : Jvm.Cond.instanceMethod yX4_firstFreeRun ∈ lw_tbl := z_in (List.mem_of_getElem? (i := 851) (by decide +kernel))
theorem VX4_firstFreeRun : Jvm.Cond.selects "ShadowWard$Heap" yX4_firstFreeRun yX4_firstFreeRun ∈ lw_tbl := List.mem_append_left _ (List.mem_of_getElem? (i := 20) (by decide +kernel))
def CX4_setOwner_0 : List zEn := [(0, .iconst 0, 1, 0, 0), (1, .aload_n 1, 2, 0, 0), (2, .getfield 83, 5, 0, 114), (5, .aload_n 0, 6, 0, 0), (6, .getfield 31, 9, 0, 26), (9, .getfield 43, 12, 0, 8), (12, .isub, 13, 0, 0), (13, .bipush 16, 15, 16, 0), (15, .idiv, 16, 0, 0), (16, .invokestatic 99, 19, 0, 158), (19, .istore_n 3, 20, 0, 0), (20, .aload_n 0, 21, 0, 0), (21, .getfield 48, 24, 0, 34), (24, .arraylength, 25, 0, 0), (25, .iload_n 3, 26, 0, 0), (26, .aload_n 1, 27, 0, 0), (27, .getfield 73, 30, 0, 116), (30, .bipush 16, 32, 16, 0), (32, .idiv, 33, 0, 0), (33, .iadd, 34, 0, 0), (34, .invokestatic 105, 37, 0, 159), (37, .istore 4, 39, 0, 0), (39, .iload_n 3, 40, 0, 0), (40, .istore 5, 42, 0, 0), (42, .iload 5, 44, 0, 0), (44, .iload 4, 46, 0, 0), (46, .if_icmp .ge 17, 49, 0, 63), (49, .aload_n 0, 50, 0, 0), (50, .getfield 48, 53, 0, 34), (53, .iload 5, 55, 0, 0)]
def CX4_setOwner_1 : List zEn := [(55, .aload_n 2, 56, 0, 0), (56, .aastore, 57, 0, 0), (57, .iinc 5 1, 60, 1, 0), (60, .goto (-18), 63, 0, 42), (63, .return_, 64, 0, 0)]
def MX4_setOwner : zMI := (yX4_setOwner, cX4_setOwner, 6, none, [(55, CX4_setOwner_0), (99999, CX4_setOwner_1)], [])
theorem DX4_setOwner_0 : CX4_setOwner_0.all (zchk cX4_setOwner) = true := by decide +kernel
theorem DX4_setOwner_1 : CX4_setOwner_1.all (zchk cX4_setOwner) = true := by decide +kernel
theorem OX4_setOwner : zMOK MX4_setOwner := by
  intro q hq e he
  simp only [MX4_setOwner, zFt, List.mem_cons, List.not_mem_nil, or_false] at hq
  rcases hq with rfl | rfl
  · exact List.all_eq_true.mp DX4_setOwner_0 e he
  · exact List.all_eq_true.mp DX4_setOwner_1 e he
theorem KX4_setOwner : zMK MX4_setOwner := ⟨OX4_setOwner, by decide +kernel, z_in (List.mem_of_getElem? (i := 866) (by decide +kernel)), z_in (List.mem_of_getElem? (i := 9) (by decide +kernel)), by decide +kernel, by decide +kernel⟩
theorem IX4_setOwner : Jvm.Cond.instanceMethod yX4_setOwner ∈ lw_tbl := z_in (List.mem_of_getElem? (i := 865) (by decide +kernel))
theorem VX4_setOwner : Jvm.Cond.selects "ShadowWard$Heap" yX4_setOwner yX4_setOwner ∈ lw_tbl := List.mem_append_left _ (List.mem_of_getElem? (i := 22) (by decide +kernel))
def CX4_takeBack_0 : List zEn := [(0, .aload_n 1, 1, 0, 0), (1, .iconst 1, 2, 1, 0), (2, .putfield 108, 5, 0, 118), (5, .aload_n 1, 6, 0, 0), (6, .iload_n 2, 7, 0, 0), (7, .putfield 111, 10, 0, 99), (10, .aload_n 0, 11, 0, 0), (11, .dup, 12, 0, 0), (12, .getfield 21, 15, 0, 35), (15, .iconst 1, 16, 1, 0), (16, .isub, 17, 0, 0), (17, .putfield 21, 20, 0, 35), (20, .aload_n 0, 21, 0, 0), (21, .dup, 22, 0, 0), (22, .getfield 25, 25, 0, 38), (25, .aload_n 1, 26, 0, 0), (26, .getfield 73, 29, 0, 116), (29, .isub, 30, 0, 0), (30, .putfield 25, 33, 0, 38), (33, .aload_n 0, 34, 0, 0), (34, .dup, 35, 0, 0), (35, .getfield 28, 38, 0, 40), (38, .aload_n 1, 39, 0, 0), (39, .getfield 73, 42, 0, 116), (42, .iadd, 43, 0, 0), (43, .putfield 28, 46, 0, 40), (46, .aload_n 0, 47, 0, 0), (47, .getfield 18, 50, 0, 32), (50, .aload_n 1, 51, 0, 0), (51, .invokevirtual 65, 54, 0, 163)]
def CX4_takeBack_1 : List zEn := [(54, .pop, 55, 0, 0), (55, .aload_n 0, 56, 0, 0), (56, .getfield 31, 59, 0, 26), (59, .aload_n 1, 60, 0, 0), (60, .getfield 76, 63, 0, 77), (63, .aload_n 1, 64, 0, 0), (64, .getfield 114, 67, 0, 87), (67, .sipush 253, 70, 253, 0), (70, .invokevirtual 86, 73, 0, 156), (73, .aload_n 0, 74, 0, 0), (74, .getfield 18, 77, 0, 32), (77, .invokevirtual 52, 80, 0, 47), (80, .istore_n 3, 81, 0, 0), (81, .iload_n 3, 82, 0, 0), (82, .ifCond .le 24, 85, 0, 106), (85, .aload_n 0, 86, 0, 0), (86, .getfield 28, 89, 0, 40), (89, .aload_n 0, 90, 0, 0), (90, .getfield 40, 93, 0, 27), (93, .if_icmp .le 13, 96, 0, 106), (96, .aload_n 0, 97, 0, 0), (97, .invokevirtual 96, 100, 0, 153), (100, .iinc 3 (-1), 103, (-1), 0), (103, .goto (-22), 106, 0, 81), (106, .return_, 107, 0, 0)]
def MX4_takeBack : zMI := (yX4_takeBack, cX4_takeBack, 4, none, [(54, CX4_takeBack_0), (99999, CX4_takeBack_1)], [])
theorem DX4_takeBack_0 : CX4_takeBack_0.all (zchk cX4_takeBack) = true := by decide +kernel
theorem DX4_takeBack_1 : CX4_takeBack_1.all (zchk cX4_takeBack) = true := by decide +kernel
theorem OX4_takeBack : zMOK MX4_takeBack := by
  intro q hq e he
  simp only [MX4_takeBack, zFt, List.mem_cons, List.not_mem_nil, or_false] at hq
  rcases hq with rfl | rfl
  · exact List.all_eq_true.mp DX4_takeBack_0 e he
  · exact List.all_eq_true.mp DX4_takeBack_1 e he
theorem KX4_takeBack : zMK MX4_takeBack := ⟨OX4_takeBack, by decide +kernel, z_in (List.mem_of_getElem? (i := 931) (by decide +kernel)), z_in (List.mem_of_getElem? (i := 9) (by decide +kernel)), by decide +kernel, by decide +kernel⟩
theorem IX4_takeBack : Jvm.Cond.instanceMethod yX4_takeBack ∈ lw_tbl := z_in (List.mem_of_getElem? (i := 929) (by decide +kernel))
theorem VX4_takeBack : Jvm.Cond.selects "ShadowWard$Heap" yX4_takeBack yX4_takeBack ∈ lw_tbl := z_in (List.mem_of_getElem? (i := 930) (by decide +kernel))
def CX4_releaseOldest_0 : List zEn := [(0, .aload_n 0, 1, 0, 0), (1, .getfield 18, 4, 0, 32), (4, .invokevirtual 115, 7, 0, 154), (7, .ifCond .eq 4, 10, 0, 11), (10, .return_, 11, 0, 0), (11, .aload_n 0, 12, 0, 0), (12, .getfield 18, 15, 0, 32), (15, .iconst 0, 16, 0, 0), (16, .invokevirtual 119, 19, 0, 155), (19, .checkcast 46, 22, 0, 8), (22, .astore_n 1, 23, 0, 0), (23, .aload_n 1, 24, 0, 0), (24, .iconst 2, 25, 2, 0), (25, .putfield 108, 28, 0, 118), (28, .aload_n 0, 29, 0, 0), (29, .dup, 30, 0, 0), (30, .getfield 28, 33, 0, 40), (33, .aload_n 1, 34, 0, 0), (34, .getfield 73, 37, 0, 116), (37, .isub, 38, 0, 0), (38, .putfield 28, 41, 0, 40), (41, .aload_n 0, 42, 0, 0), (42, .getfield 31, 45, 0, 26), (45, .aload_n 1, 46, 0, 0), (46, .getfield 83, 49, 0, 114), (49, .aload_n 1, 50, 0, 0), (50, .getfield 73, 53, 0, 116), (53, .sipush 250, 56, 250, 0), (56, .invokevirtual 86, 59, 0, 156), (59, .aload_n 0, 60, 0, 0)]
def CX4_releaseOldest_1 : List zEn := [(60, .aload_n 1, 61, 0, 0), (61, .aconst_null, 62, 0, 0), (62, .invokevirtual 69, 65, 0, 157), (65, .return_, 66, 0, 0)]
def MX4_releaseOldest : zMI := (yX4_releaseOldest, cX4_releaseOldest, 2, none, [(60, CX4_releaseOldest_0), (99999, CX4_releaseOldest_1)], [])
theorem DX4_releaseOldest_0 : CX4_releaseOldest_0.all (zchk cX4_releaseOldest) = true := by decide +kernel
theorem DX4_releaseOldest_1 : CX4_releaseOldest_1.all (zchk cX4_releaseOldest) = true := by decide +kernel
theorem OX4_releaseOldest : zMOK MX4_releaseOldest := by
  intro q hq e he
  simp only [MX4_releaseOldest, zFt, List.mem_cons, List.not_mem_nil, or_false] at hq
  rcases hq with rfl | rfl
  · exact List.all_eq_true.mp DX4_releaseOldest_0 e he
  · exact List.all_eq_true.mp DX4_releaseOldest_1 e he
theorem KX4_releaseOldest : zMK MX4_releaseOldest := ⟨OX4_releaseOldest, by decide +kernel, z_in (List.mem_of_getElem? (i := 856) (by decide +kernel)), z_in (List.mem_of_getElem? (i := 9) (by decide +kernel)), by decide +kernel, by decide +kernel⟩
theorem IX4_releaseOldest : Jvm.Cond.instanceMethod yX4_releaseOldest ∈ lw_tbl := z_in (List.mem_of_getElem? (i := 855) (by decide +kernel))
theorem VX4_releaseOldest : Jvm.Cond.selects "ShadowWard$Heap" yX4_releaseOldest yX4_releaseOldest ∈ lw_tbl := List.mem_append_left _ (List.mem_of_getElem? (i := 21) (by decide +kernel))
def CX4_chunkOwner_0 : List zEn := [(0, .iload_n 1, 1, 0, 0), (1, .aload_n 0, 2, 0, 0), (2, .getfield 31, 5, 0, 26), (5, .getfield 43, 8, 0, 8), (8, .if_icmp .ge 5, 11, 0, 13), (11, .aconst_null, 12, 0, 0), (12, .areturn, 13, 0, 0), (13, .iload_n 1, 14, 0, 0), (14, .aload_n 0, 15, 0, 0), (15, .getfield 31, 18, 0, 26), (18, .getfield 43, 21, 0, 8), (21, .isub, 22, 0, 0), (22, .bipush 16, 24, 16, 0), (24, .idiv, 25, 0, 0), (25, .istore_n 2, 26, 0, 0), (26, .iload_n 2, 27, 0, 0), (27, .aload_n 0, 28, 0, 0), (28, .getfield 48, 31, 0, 34), (31, .arraylength, 32, 0, 0), (32, .if_icmp .ge 12, 35, 0, 44), (35, .aload_n 0, 36, 0, 0), (36, .getfield 48, 39, 0, 34), (39, .iload_n 2, 40, 0, 0), (40, .aaload, 41, 0, 0), (41, .goto 4, 44, 0, 45), (44, .aconst_null, 45, 0, 0), (45, .areturn, 46, 0, 0)]
def MX4_chunkOwner : zMI := (yX4_chunkOwner, cX4_chunkOwner, 3, (some (.object "ShadowWard$Block")), [(99999, CX4_chunkOwner_0)], [])
theorem DX4_chunkOwner_0 : CX4_chunkOwner_0.all (zchk cX4_chunkOwner) = true := by decide +kernel
theorem OX4_chunkOwner : zMOK MX4_chunkOwner := by
  intro q hq e he
  simp only [MX4_chunkOwner, zFt, List.mem_cons, List.not_mem_nil, or_false] at hq
  rcases hq with rfl
  · exact List.all_eq_true.mp DX4_chunkOwner_0 e he
theorem KX4_chunkOwner : zMK MX4_chunkOwner := ⟨OX4_chunkOwner, by decide +kernel, z_in (List.mem_of_getElem? (i := 565) (by decide +kernel)), z_in (List.mem_of_getElem? (i := 9) (by decide +kernel)), by decide +kernel, by decide +kernel⟩
theorem IX4_chunkOwner : Jvm.Cond.instanceMethod yX4_chunkOwner ∈ lw_tbl := z_in (List.mem_of_getElem? (i := 564) (by decide +kernel))
theorem VX4_chunkOwner : Jvm.Cond.selects "ShadowWard$Heap" yX4_chunkOwner yX4_chunkOwner ∈ lw_tbl := List.mem_append_left _ (List.mem_of_getElem? (i := 11) (by decide +kernel))
def CX4_blockAt_0 : List zEn := [(0, .aload_n 0, 1, 0, 0), (1, .iload_n 1, 2, 0, 0), (2, .invokevirtual 123, 5, 0, 94), (5, .astore_n 2, 6, 0, 0), (6, .aload_n 2, 7, 0, 0), (7, .ifnull 15, 10, 0, 22), (10, .aload_n 2, 11, 0, 0), (11, .getfield 76, 14, 0, 77), (14, .iload_n 1, 15, 0, 0), (15, .if_icmp .ne 7, 18, 0, 22), (18, .aload_n 2, 19, 0, 0), (19, .goto 4, 22, 0, 23), (22, .aconst_null, 23, 0, 0), (23, .areturn, 24, 0, 0)]
def MX4_blockAt : zMI := (yX4_blockAt, cX4_blockAt, 3, (some (.object "ShadowWard$Block")), [(99999, CX4_blockAt_0)], [])
theorem DX4_blockAt_0 : CX4_blockAt_0.all (zchk cX4_blockAt) = true := by decide +kernel
theorem OX4_blockAt : zMOK MX4_blockAt := by
  intro q hq e he
  simp only [MX4_blockAt, zFt, List.mem_cons, List.not_mem_nil, or_false] at hq
  rcases hq with rfl
  · exact List.all_eq_true.mp DX4_blockAt_0 e he
theorem KX4_blockAt : zMK MX4_blockAt := ⟨OX4_blockAt, by decide +kernel, z_in (List.mem_of_getElem? (i := 927) (by decide +kernel)), z_in (List.mem_of_getElem? (i := 9) (by decide +kernel)), by decide +kernel, by decide +kernel⟩
theorem IX4_blockAt : Jvm.Cond.instanceMethod yX4_blockAt ∈ lw_tbl := z_in (List.mem_of_getElem? (i := 925) (by decide +kernel))
theorem VX4_blockAt : Jvm.Cond.selects "ShadowWard$Heap" yX4_blockAt yX4_blockAt ∈ lw_tbl := z_in (List.mem_of_getElem? (i := 926) (by decide +kernel))
def CX4_liveBlockWith_0 : List zEn := [(0, .aload_n 0, 1, 0, 0), (1, .iload_n 1, 2, 0, 0), (2, .invokevirtual 123, 5, 0, 94), (5, .astore_n 2, 6, 0, 0), (6, .aload_n 2, 7, 0, 0), (7, .ifnull 22, 10, 0, 29), (10, .aload_n 2, 11, 0, 0), (11, .getfield 108, 14, 0, 118), (14, .ifCond .ne 15, 17, 0, 29), (17, .aload_n 2, 18, 0, 0), (18, .iload_n 1, 19, 0, 0), (19, .invokevirtual 127, 22, 0, 95), (22, .ifCond .eq 7, 25, 0, 29), (25, .aload_n 2, 26, 0, 0), (26, .goto 4, 29, 0, 30), (29, .aconst_null, 30, 0, 0), (30, .areturn, 31, 0, 0)]
def MX4_liveBlockWith : zMI := (yX4_liveBlockWith, cX4_liveBlockWith, 3, (some (.object "ShadowWard$Block")), [(99999, CX4_liveBlockWith_0)], [])
theorem DX4_liveBlockWith_0 : CX4_liveBlockWith_0.all (zchk cX4_liveBlockWith) = true := by decide +kernel
theorem OX4_liveBlockWith : zMOK MX4_liveBlockWith := by
  intro q hq e he
  simp only [MX4_liveBlockWith, zFt, List.mem_cons, List.not_mem_nil, or_false] at hq
  rcases hq with rfl
  · exact List.all_eq_true.mp DX4_liveBlockWith_0 e he
theorem KX4_liveBlockWith : zMK MX4_liveBlockWith := ⟨OX4_liveBlockWith, by decide +kernel, z_in (List.mem_of_getElem? (i := 561) (by decide +kernel)), z_in (List.mem_of_getElem? (i := 9) (by decide +kernel)), by decide +kernel, by decide +kernel⟩
theorem IX4_liveBlockWith : Jvm.Cond.instanceMethod yX4_liveBlockWith ∈ lw_tbl := z_in (List.mem_of_getElem? (i := 559) (by decide +kernel))
theorem VX4_liveBlockWith : Jvm.Cond.selects "ShadowWard$Heap" yX4_liveBlockWith yX4_liveBlockWith ∈ lw_tbl := z_in (List.mem_of_getElem? (i := 560) (by decide +kernel))
def CX4_nearestTo_0 : List zEn := [(0, .aconst_null, 1, 0, 0), (1, .astore_n 2, 2, 0, 0), (2, .iconst 0, 3, 0, 0), (3, .istore_n 3, 4, 0, 0), (4, .iload_n 3, 5, 0, 0), (5, .aload_n 0, 6, 0, 0), (6, .getfield 12, 9, 0, 29), (9, .invokevirtual 52, 12, 0, 47), (12, .if_icmp .ge 39, 15, 0, 51), (15, .aload_n 0, 16, 0, 0), (16, .getfield 12, 19, 0, 29), (19, .iload_n 3, 20, 0, 0), (20, .invokevirtual 131, 23, 0, 48), (23, .checkcast 46, 26, 0, 8), (26, .astore 4, 28, 0, 0), (28, .aload 4, 30, 0, 0), (30, .getfield 108, 33, 0, 118), (33, .iconst 2, 34, 2, 0), (34, .if_icmp .eq 11, 37, 0, 45), (37, .aload_n 2, 38, 0, 0), (38, .aload 4, 40, 0, 0), (40, .iload_n 1, 41, 0, 0), (41, .invokestatic 134, 44, 0, 3), (44, .astore_n 2, 45, 0, 0), (45, .iinc 3 1, 48, 1, 0), (48, .goto (-44), 51, 0, 4), (51, .aload_n 2, 52, 0, 0), (52, .areturn, 53, 0, 0)]
def MX4_nearestTo : zMI := (yX4_nearestTo, cX4_nearestTo, 5, (some (.object "ShadowWard$Region")), [(99999, CX4_nearestTo_0)], [])
theorem DX4_nearestTo_0 : CX4_nearestTo_0.all (zchk cX4_nearestTo) = true := by decide +kernel
theorem OX4_nearestTo : zMOK MX4_nearestTo := by
  intro q hq e he
  simp only [MX4_nearestTo, zFt, List.mem_cons, List.not_mem_nil, or_false] at hq
  rcases hq with rfl
  · exact List.all_eq_true.mp DX4_nearestTo_0 e he
theorem KX4_nearestTo : zMK MX4_nearestTo := ⟨OX4_nearestTo, by decide +kernel, z_in (List.mem_of_getElem? (i := 317) (by decide +kernel)), z_in (List.mem_of_getElem? (i := 9) (by decide +kernel)), by decide +kernel, by decide +kernel⟩
theorem IX4_nearestTo : Jvm.Cond.instanceMethod yX4_nearestTo ∈ lw_tbl := z_in (List.mem_of_getElem? (i := 315) (by decide +kernel))
theorem VX4_nearestTo : Jvm.Cond.selects "ShadowWard$Heap" yX4_nearestTo yX4_nearestTo ∈ lw_tbl := z_in (List.mem_of_getElem? (i := 316) (by decide +kernel))
def CX5_init_0 : List zEn := [(0, .aload_n 0, 1, 0, 0), (1, .invokespecial 3, 4, 0, 20), (4, .aload_n 0, 5, 0, 0), (5, .new 9, 8, 0, 10), (8, .dup, 9, 0, 0), (9, .invokespecial 11, 12, 0, 21), (12, .putfield 12, 15, 0, 46), (15, .aload_n 0, 16, 0, 0), (16, .aload_n 1, 17, 0, 0), (17, .putfield 18, 20, 0, 42), (20, .aload_n 0, 21, 0, 0), (21, .aload_n 2, 22, 0, 0), (22, .putfield 22, 25, 0, 43), (25, .aload_n 0, 26, 0, 0), (26, .aload_n 3, 27, 0, 0), (27, .putfield 26, 30, 0, 44), (30, .aload_n 0, 31, 0, 0), (31, .aload 4, 33, 0, 0), (33, .putfield 30, 36, 0, 45), (36, .return_, 37, 0, 0)]
def MX5_init : zMI := (yX5_init, cX5_init, 5, none, [(99999, CX5_init_0)], [])
theorem DX5_init_0 : CX5_init_0.all (zchk cX5_init) = true := by decide +kernel
theorem OX5_init : zMOK MX5_init := by
  intro q hq e he
  simp only [MX5_init, zFt, List.mem_cons, List.not_mem_nil, or_false] at hq
  rcases hq with rfl
  · exact List.all_eq_true.mp DX5_init_0 e he
theorem KX5_init : zMK MX5_init := ⟨OX5_init, by decide +kernel, z_in (List.mem_of_getElem? (i := 186) (by decide +kernel)), z_in (List.mem_of_getElem? (i := 10) (by decide +kernel)), by decide +kernel, by decide +kernel⟩
theorem IX5_init : Jvm.Cond.instanceMethod yX5_init ∈ lw_tbl := z_in (List.mem_of_getElem? (i := 185) (by decide +kernel))
def CX5_firstFrom_0 : List zEn := [(0, .aload_n 0, 1, 0, 0), (1, .invokevirtual 34, 4, 0, 85), (4, .iload_n 2, 5, 0, 0), (5, .ifCond .eq 7, 8, 0, 12), (8, .aload_n 0, 9, 0, 0), (9, .invokevirtual 37, 12, 0, 98), (12, .iconst 0, 13, 0, 0), (13, .iload_n 1, 14, 0, 0), (14, .invokestatic 40, 17, 0, 101), (17, .istore_n 3, 18, 0, 0), (18, .iload_n 3, 19, 0, 0), (19, .aload_n 0, 20, 0, 0), (20, .getfield 30, 23, 0, 45), (23, .getfield 46, 26, 0, 30), (26, .invokevirtual 51, 29, 0, 87), (29, .if_icmp .ge 47, 32, 0, 76), (32, .aload_n 0, 33, 0, 0), (33, .getfield 30, 36, 0, 45), (36, .getfield 46, 39, 0, 30), (39, .iload_n 3, 40, 0, 0), (40, .invokevirtual 55, 43, 0, 88), (43, .checkcast 59, 46, 0, 20), (46, .astore 4, 48, 0, 0), (48, .aload 4, 50, 0, 0), (50, .invokevirtual 61, 53, 0, 99), (53, .ifCond .eq 17, 56, 0, 70), (56, .iload_n 2, 57, 0, 0), (57, .ifCond .eq 11, 60, 0, 68), (60, .aload 4, 62, 0, 0), (62, .getfield 65, 65, 0, 122)]
def CX5_firstFrom_1 : List zEn := [(65, .ifCond .ne 5, 68, 0, 70), (68, .iload_n 3, 69, 0, 0), (69, .ireturn, 70, 0, 0), (70, .iinc 3 1, 73, 1, 0), (73, .goto (-55), 76, 0, 18), (76, .iconst (-1), 77, (-1), 0), (77, .ireturn, 78, 0, 0)]
def MX5_firstFrom : zMI := (yX5_firstFrom, cX5_firstFrom, 5, (some .int), [(65, CX5_firstFrom_0), (99999, CX5_firstFrom_1)], [])
theorem DX5_firstFrom_0 : CX5_firstFrom_0.all (zchk cX5_firstFrom) = true := by decide +kernel
theorem DX5_firstFrom_1 : CX5_firstFrom_1.all (zchk cX5_firstFrom) = true := by decide +kernel
theorem OX5_firstFrom : zMOK MX5_firstFrom := by
  intro q hq e he
  simp only [MX5_firstFrom, zFt, List.mem_cons, List.not_mem_nil, or_false] at hq
  rcases hq with rfl | rfl
  · exact List.all_eq_true.mp DX5_firstFrom_0 e he
  · exact List.all_eq_true.mp DX5_firstFrom_1 e he
theorem KX5_firstFrom : zMK MX5_firstFrom := ⟨OX5_firstFrom, by decide +kernel, z_in (List.mem_of_getElem? (i := 532) (by decide +kernel)), z_in (List.mem_of_getElem? (i := 10) (by decide +kernel)), by decide +kernel, by decide +kernel⟩
theorem IX5_firstFrom : Jvm.Cond.instanceMethod yX5_firstFrom ∈ lw_tbl := z_in (List.mem_of_getElem? (i := 530) (by decide +kernel))
theorem VX5_firstFrom : Jvm.Cond.selects "ShadowWard$LostSearch" yX5_firstFrom yX5_firstFrom ∈ lw_tbl := z_in (List.mem_of_getElem? (i := 531) (by decide +kernel))
def CX5_count_0 : List zEn := [(0, .aload_n 0, 1, 0, 0), (1, .invokevirtual 34, 4, 0, 85), (4, .aload_n 0, 5, 0, 0), (5, .getfield 30, 8, 0, 45), (8, .getfield 69, 11, 0, 36), (11, .aload_n 0, 12, 0, 0), (12, .getfield 12, 15, 0, 46), (15, .invokevirtual 51, 18, 0, 87), (18, .isub, 19, 0, 0), (19, .ireturn, 20, 0, 0)]
def MX5_count : zMI := (yX5_count, cX5_count, 1, (some .int), [(99999, CX5_count_0)], [])
theorem DX5_count_0 : CX5_count_0.all (zchk cX5_count) = true := by decide +kernel
theorem OX5_count : zMOK MX5_count := by
  intro q hq e he
  simp only [MX5_count, zFt, List.mem_cons, List.not_mem_nil, or_false] at hq
  rcases hq with rfl
  · exact List.all_eq_true.mp DX5_count_0 e he
theorem KX5_count : zMK MX5_count := ⟨OX5_count, by decide +kernel, z_in (List.mem_of_getElem? (i := 1061) (by decide +kernel)), z_in (List.mem_of_getElem? (i := 10) (by decide +kernel)), by decide +kernel, by decide +kernel⟩
theorem IX5_count : Jvm.Cond.instanceMethod yX5_count ∈ lw_tbl := z_in (List.mem_of_getElem? (i := 1059) (by decide +kernel))
theorem VX5_count : Jvm.Cond.selects "ShadowWard$LostSearch" yX5_count yX5_count ∈ lw_tbl := z_in (List.mem_of_getElem? (i := 1060) (by decide +kernel))
def CX5_markFound_0 : List zEn := [(0, .aload_n 0, 1, 0, 0), (1, .getfield 12, 4, 0, 46), (4, .invokevirtual 73, 7, 0, 86), (7, .iconst 0, 8, 0, 0), (8, .istore_n 1, 9, 0, 0), (9, .iload_n 1, 10, 0, 0), (10, .aload_n 0, 11, 0, 0), (11, .getfield 30, 14, 0, 45), (14, .getfield 46, 17, 0, 30), (17, .invokevirtual 51, 20, 0, 87), (20, .if_icmp .ge 27, 23, 0, 47), (23, .aload_n 0, 24, 0, 0), (24, .getfield 30, 27, 0, 45), (27, .getfield 46, 30, 0, 30), (30, .iload_n 1, 31, 0, 0), (31, .invokevirtual 55, 34, 0, 88), (34, .checkcast 59, 37, 0, 20), (37, .iconst 0, 38, 0, 0), (38, .putfield 76, 41, 0, 121), (41, .iinc 1 1, 44, 1, 0), (44, .goto (-35), 47, 0, 9), (47, .iconst 0, 48, 0, 0), (48, .istore_n 1, 49, 0, 0), (49, .iload_n 1, 50, 0, 0), (50, .aload_n 0, 51, 0, 0), (51, .getfield 22, 54, 0, 43), (54, .getfield 78, 57, 0, 20), (57, .invokevirtual 51, 60, 0, 87), (60, .if_icmp .ge 27, 63, 0, 87), (63, .aload_n 0, 64, 0, 0)]
def CX5_markFound_1 : List zEn := [(64, .aload_n 0, 65, 0, 0), (65, .getfield 22, 68, 0, 43), (68, .getfield 78, 71, 0, 20), (71, .iload_n 1, 72, 0, 0), (72, .invokevirtual 55, 75, 0, 88), (75, .checkcast 83, 78, 0, 21), (78, .invokevirtual 85, 81, 0, 89), (81, .iinc 1 1, 84, 1, 0), (84, .goto (-35), 87, 0, 49), (87, .iconst 0, 88, 0, 0), (88, .istore_n 1, 89, 0, 0), (89, .iload_n 1, 90, 0, 0), (90, .aload_n 0, 91, 0, 0), (91, .getfield 26, 94, 0, 44), (94, .invokevirtual 89, 97, 0, 97), (97, .if_icmp .ge 69, 100, 0, 166), (100, .aload_n 0, 101, 0, 0), (101, .getfield 26, 104, 0, 44), (104, .getfield 94, 107, 0, 24), (107, .iload_n 1, 108, 0, 0), (108, .invokevirtual 55, 111, 0, 88), (111, .checkcast 96, 114, 0, 22), (114, .getfield 98, 117, 0, 105), (117, .astore_n 2, 118, 0, 0), (118, .iconst 0, 119, 0, 0), (119, .istore_n 3, 120, 0, 0), (120, .iload_n 3, 121, 0, 0), (121, .aload_n 2, 122, 0, 0), (122, .invokevirtual 51, 125, 0, 87), (125, .if_icmp .ge 35, 128, 0, 160)]
def CX5_markFound_2 : List zEn := [(128, .aload_n 2, 129, 0, 0), (129, .iload_n 3, 130, 0, 0), (130, .invokevirtual 55, 133, 0, 88), (133, .checkcast 101, 136, 0, 23), (136, .getfield 103, 139, 0, 109), (139, .ifCond .eq 15, 142, 0, 154), (142, .aload_n 0, 143, 0, 0), (143, .aload_n 2, 144, 0, 0), (144, .iload_n 3, 145, 0, 0), (145, .invokevirtual 55, 148, 0, 88), (148, .checkcast 83, 151, 0, 21), (151, .invokevirtual 85, 154, 0, 89), (154, .iinc 3 1, 157, 1, 0), (157, .goto (-37), 160, 0, 120), (160, .iinc 1 1, 163, 1, 0), (163, .goto (-74), 166, 0, 89), (166, .iconst 0, 167, 0, 0), (167, .istore_n 1, 168, 0, 0), (168, .iload_n 1, 169, 0, 0), (169, .aload_n 0, 170, 0, 0), (170, .getfield 30, 173, 0, 45), (173, .getfield 69, 176, 0, 36), (176, .if_icmp .ge 35, 179, 0, 211), (179, .iload_n 1, 180, 0, 0), (180, .aload_n 0, 181, 0, 0), (181, .getfield 12, 184, 0, 46), (184, .invokevirtual 51, 187, 0, 87), (187, .if_icmp .ge 24, 190, 0, 211), (190, .aload_n 0, 191, 0, 0), (191, .aload_n 0, 192, 0, 0)]
def CX5_markFound_3 : List zEn := [(192, .getfield 12, 195, 0, 46), (195, .iload_n 1, 196, 0, 0), (196, .invokevirtual 55, 199, 0, 88), (199, .checkcast 83, 202, 0, 21), (202, .invokevirtual 85, 205, 0, 89), (205, .iinc 1 1, 208, 1, 0), (208, .goto (-40), 211, 0, 168), (211, .return_, 212, 0, 0)]
def MX5_markFound : zMI := (yX5_markFound, cX5_markFound, 4, none, [(64, CX5_markFound_0), (128, CX5_markFound_1), (192, CX5_markFound_2), (99999, CX5_markFound_3)], [])
theorem DX5_markFound_0 : CX5_markFound_0.all (zchk cX5_markFound) = true := by decide +kernel
theorem DX5_markFound_1 : CX5_markFound_1.all (zchk cX5_markFound) = true := by decide +kernel
theorem DX5_markFound_2 : CX5_markFound_2.all (zchk cX5_markFound) = true := by decide +kernel
theorem DX5_markFound_3 : CX5_markFound_3.all (zchk cX5_markFound) = true := by decide +kernel
theorem OX5_markFound : zMOK MX5_markFound := by
  intro q hq e he
  simp only [MX5_markFound, zFt, List.mem_cons, List.not_mem_nil, or_false] at hq
  rcases hq with rfl | rfl | rfl | rfl
  · exact List.all_eq_true.mp DX5_markFound_0 e he
  · exact List.all_eq_true.mp DX5_markFound_1 e he
  · exact List.all_eq_true.mp DX5_markFound_2 e he
  · exact List.all_eq_true.mp DX5_markFound_3 e he
theorem KX5_markFound : zMK MX5_markFound := ⟨OX5_markFound, by decide +kernel, z_in (List.mem_of_getElem? (i := 536) (by decide +kernel)), z_in (List.mem_of_getElem? (i := 10) (by decide +kernel)), by decide +kernel, by decide +kernel⟩
theorem IX5_markFound : Jvm.Cond.instanceMethod yX5_markFound ∈ lw_tbl := z_in (List.mem_of_getElem? (i := 535) (by decide +kernel))
theorem VX5_markFound : Jvm.Cond.selects "ShadowWard$LostSearch" yX5_markFound yX5_markFound ∈ lw_tbl := List.mem_append_left _ (List.mem_of_getElem? (i := 8) (by decide +kernel))
def CX5_findFrom_0 : List zEn := [(0, .aload_n 1, 1, 0, 0), (1, .getfield 106, 4, 0, 78), (4, .istore_n 2, 5, 0, 0), (5, .iload_n 2, 6, 0, 0), (6, .iconst 4, 7, 4, 0), (7, .iadd, 8, 0, 0), (8, .aload_n 1, 9, 0, 0), (9, .getfield 109, 12, 0, 92), (12, .if_icmp .gt 40, 15, 0, 52), (15, .aload_n 0, 16, 0, 0), (16, .iload_n 2, 17, 0, 0), (17, .invokevirtual 112, 20, 0, 90), (20, .astore_n 3, 21, 0, 0), (21, .aload_n 3, 22, 0, 0), (22, .ifnull 24, 25, 0, 46), (25, .aload_n 3, 26, 0, 0), (26, .getfield 76, 29, 0, 121), (29, .ifCond .ne 17, 32, 0, 46), (32, .aload_n 3, 33, 0, 0), (33, .iconst 1, 34, 1, 0), (34, .putfield 76, 37, 0, 121), (37, .aload_n 0, 38, 0, 0), (38, .getfield 12, 41, 0, 46), (41, .aload_n 3, 42, 0, 0), (42, .invokevirtual 116, 45, 0, 96), (45, .pop, 46, 0, 0), (46, .iinc 2 4, 49, 4, 0), (49, .goto (-44), 52, 0, 5), (52, .return_, 53, 0, 0)]
def MX5_findFrom : zMI := (yX5_findFrom, cX5_findFrom, 4, none, [(99999, CX5_findFrom_0)], [])
theorem DX5_findFrom_0 : CX5_findFrom_0.all (zchk cX5_findFrom) = true := by decide +kernel
theorem OX5_findFrom : zMOK MX5_findFrom := by
  intro q hq e he
  simp only [MX5_findFrom, zFt, List.mem_cons, List.not_mem_nil, or_false] at hq
  rcases hq with rfl
  · exact List.all_eq_true.mp DX5_findFrom_0 e he
theorem KX5_findFrom : zMK MX5_findFrom := ⟨OX5_findFrom, by decide +kernel, z_in (List.mem_of_getElem? (i := 548) (by decide +kernel)), z_in (List.mem_of_getElem? (i := 10) (by decide +kernel)), by decide +kernel, by decide +kernel⟩
theorem IX5_findFrom : Jvm.Cond.instanceMethod yX5_findFrom ∈ lw_tbl := z_in (List.mem_of_getElem? (i := 547) (by decide +kernel))
theorem VX5_findFrom : Jvm.Cond.selects "ShadowWard$LostSearch" yX5_findFrom yX5_findFrom ∈ lw_tbl := List.mem_append_left _ (List.mem_of_getElem? (i := 9) (by decide +kernel))
def CX5_markLedToByLost_0 : List zEn := [(0, .iconst 0, 1, 0, 0), (1, .istore_n 1, 2, 0, 0), (2, .iload_n 1, 3, 0, 0), (3, .aload_n 0, 4, 0, 0), (4, .getfield 30, 7, 0, 45), (7, .getfield 46, 10, 0, 30), (10, .invokevirtual 51, 13, 0, 87), (13, .if_icmp .ge 27, 16, 0, 40), (16, .aload_n 0, 17, 0, 0), (17, .getfield 30, 20, 0, 45), (20, .getfield 46, 23, 0, 30), (23, .iload_n 1, 24, 0, 0), (24, .invokevirtual 55, 27, 0, 88), (27, .checkcast 59, 30, 0, 20), (30, .iconst 0, 31, 0, 0), (31, .putfield 65, 34, 0, 122), (34, .iinc 1 1, 37, 1, 0), (37, .goto (-35), 40, 0, 2), (40, .iconst 0, 41, 0, 0), (41, .istore_n 1, 42, 0, 0), (42, .iload_n 1, 43, 0, 0), (43, .aload_n 0, 44, 0, 0), (44, .getfield 30, 47, 0, 45), (47, .getfield 46, 50, 0, 30), (50, .invokevirtual 51, 53, 0, 87), (53, .if_icmp .ge 36, 56, 0, 89), (56, .aload_n 0, 57, 0, 0), (57, .getfield 30, 60, 0, 45), (60, .getfield 46, 63, 0, 30), (63, .iload_n 1, 64, 0, 0)]
def CX5_markLedToByLost_1 : List zEn := [(64, .invokevirtual 55, 67, 0, 88), (67, .checkcast 59, 70, 0, 20), (70, .astore_n 2, 71, 0, 0), (71, .aload_n 2, 72, 0, 0), (72, .invokevirtual 61, 75, 0, 99), (75, .ifCond .eq 8, 78, 0, 83), (78, .aload_n 0, 79, 0, 0), (79, .aload_n 2, 80, 0, 0), (80, .invokevirtual 120, 83, 0, 100), (83, .iinc 1 1, 86, 1, 0), (86, .goto (-44), 89, 0, 42), (89, .return_, 90, 0, 0)]
def MX5_markLedToByLost : zMI := (yX5_markLedToByLost, cX5_markLedToByLost, 3, none, [(64, CX5_markLedToByLost_0), (99999, CX5_markLedToByLost_1)], [])
theorem DX5_markLedToByLost_0 : CX5_markLedToByLost_0.all (zchk cX5_markLedToByLost) = true := by decide +kernel
theorem DX5_markLedToByLost_1 : CX5_markLedToByLost_1.all (zchk cX5_markLedToByLost) = true := by decide +kernel
theorem OX5_markLedToByLost : zMOK MX5_markLedToByLost := by
  intro q hq e he
  simp only [MX5_markLedToByLost, zFt, List.mem_cons, List.not_mem_nil, or_false] at hq
  rcases hq with rfl | rfl
  · exact List.all_eq_true.mp DX5_markLedToByLost_0 e he
  · exact List.all_eq_true.mp DX5_markLedToByLost_1 e he
theorem KX5_markLedToByLost : zMK MX5_markLedToByLost := ⟨OX5_markLedToByLost, by decide +kernel, z_in (List.mem_of_getElem? (i := 579) (by decide +kernel)), z_in (List.mem_of_getElem? (i := 10) (by decide +kernel)), by decide +kernel, by decide +kernel⟩
theorem IX5_markLedToByLost : Jvm.Cond.instanceMethod yX5_markLedToByLost ∈ lw_tbl := z_in (List.mem_of_getElem? (i := 578) (by decide +kernel))
theorem VX5_markLedToByLost : Jvm.Cond.selects "ShadowWard$LostSearch" yX5_markLedToByLost yX5_markLedToByLost ∈ lw_tbl := List.mem_append_left _ (List.mem_of_getElem? (i := 12) (by decide +kernel))
def CX5_markLedToFrom_0 : List zEn := [(0, .aload_n 1, 1, 0, 0), (1, .getfield 124, 4, 0, 82), (4, .istore_n 2, 5, 0, 0), (5, .iload_n 2, 6, 0, 0), (6, .iconst 4, 7, 4, 0), (7, .iadd, 8, 0, 0), (8, .aload_n 1, 9, 0, 0), (9, .getfield 125, 12, 0, 93), (12, .if_icmp .gt 29, 15, 0, 41), (15, .aload_n 0, 16, 0, 0), (16, .iload_n 2, 17, 0, 0), (17, .invokevirtual 112, 20, 0, 90), (20, .astore_n 3, 21, 0, 0), (21, .aload_n 3, 22, 0, 0), (22, .ifnull 13, 25, 0, 35), (25, .aload_n 3, 26, 0, 0), (26, .aload_n 1, 27, 0, 0), (27, .if_acmp .eq 8, 30, 0, 35), (30, .aload_n 3, 31, 0, 0), (31, .iconst 1, 32, 1, 0), (32, .putfield 65, 35, 0, 122), (35, .iinc 2 4, 38, 4, 0), (38, .goto (-33), 41, 0, 5), (41, .return_, 42, 0, 0)]
def MX5_markLedToFrom : zMI := (yX5_markLedToFrom, cX5_markLedToFrom, 4, none, [(99999, CX5_markLedToFrom_0)], [])
theorem DX5_markLedToFrom_0 : CX5_markLedToFrom_0.all (zchk cX5_markLedToFrom) = true := by decide +kernel
theorem OX5_markLedToFrom : zMOK MX5_markLedToFrom := by
  intro q hq e he
  simp only [MX5_markLedToFrom, zFt, List.mem_cons, List.not_mem_nil, or_false] at hq
  rcases hq with rfl
  · exact List.all_eq_true.mp DX5_markLedToFrom_0 e he
theorem KX5_markLedToFrom : zMK MX5_markLedToFrom := ⟨OX5_markLedToFrom, by decide +kernel, z_in (List.mem_of_getElem? (i := 587) (by decide +kernel)), z_in (List.mem_of_getElem? (i := 10) (by decide +kernel)), by decide +kernel, by decide +kernel⟩
theorem IX5_markLedToFrom : Jvm.Cond.instanceMethod yX5_markLedToFrom ∈ lw_tbl := z_in (List.mem_of_getElem? (i := 586) (by decide +kernel))
theorem VX5_markLedToFrom : Jvm.Cond.selects "ShadowWard$LostSearch" yX5_markLedToFrom yX5_markLedToFrom ∈ lw_tbl := List.mem_append_left _ (List.mem_of_getElem? (i := 13) (by decide +kernel))
def CX5_ledToFrom_0 : List zEn := [(0, .aload_n 0, 1, 0, 0), (1, .getfield 30, 4, 0, 45), (4, .aload_n 0, 5, 0, 0), (5, .getfield 18, 8, 0, 42), (8, .iload_n 1, 9, 0, 0), (9, .iconst 4, 10, 4, 0), (10, .invokevirtual 126, 13, 0, 91), (13, .l2i, 14, 0, 0), (14, .invokevirtual 132, 17, 0, 93), (17, .areturn, 18, 0, 0)]
def MX5_ledToFrom : zMI := (yX5_ledToFrom, cX5_ledToFrom, 2, (some (.object "ShadowWard$Block")), [(99999, CX5_ledToFrom_0)], [])
theorem DX5_ledToFrom_0 : CX5_ledToFrom_0.all (zchk cX5_ledToFrom) = true := by decide +kernel
theorem OX5_ledToFrom : zMOK MX5_ledToFrom := by
  intro q hq e he
  simp only [MX5_ledToFrom, zFt, List.mem_cons, List.not_mem_nil, or_false] at hq
  rcases hq with rfl
  · exact List.all_eq_true.mp DX5_ledToFrom_0 e he
theorem KX5_ledToFrom : zMK MX5_ledToFrom := ⟨OX5_ledToFrom, by decide +kernel, z_in (List.mem_of_getElem? (i := 552) (by decide +kernel)), z_in (List.mem_of_getElem? (i := 10) (by decide +kernel)), by decide +kernel, by decide +kernel⟩
theorem IX5_ledToFrom : Jvm.Cond.instanceMethod yX5_ledToFrom ∈ lw_tbl := z_in (List.mem_of_getElem? (i := 551) (by decide +kernel))
theorem VX5_ledToFrom : Jvm.Cond.selects "ShadowWard$LostSearch" yX5_ledToFrom yX5_ledToFrom ∈ lw_tbl := List.mem_append_left _ (List.mem_of_getElem? (i := 10) (by decide +kernel))
def CX6_init_0 : List zEn := [(0, .aload_n 0, 1, 0, 0), (1, .invokespecial 3, 4, 0, 3), (4, .aload_n 0, 5, 0, 0), (5, .iload_n 1, 6, 0, 0), (6, .sipush 1024, 9, 1024, 0), (9, .if_icmp .lt 21, 12, 0, 30), (12, .iload_n 1, 13, 0, 0), (13, .sipush 8192, 16, 8192, 0), (16, .if_icmp .gt 14, 19, 0, 30), (19, .iload_n 1, 20, 0, 0), (20, .bipush 64, 22, 64, 0), (22, .irem, 23, 0, 0), (23, .ifCond .ne 7, 26, 0, 30), (26, .iload_n 1, 27, 0, 0), (27, .goto 6, 30, 0, 33), (30, .sipush 4096, 33, 4096, 0), (33, .putfield 9, 36, 0, 0), (36, .aload_n 0, 37, 0, 0), (37, .aload_n 0, 38, 0, 0), (38, .getfield 9, 41, 0, 0), (41, .bipush 8, 43, 8, 0), (43, .idiv, 44, 0, 0), (44, .putfield 15, 47, 0, 3), (47, .aload_n 0, 48, 0, 0), (48, .aload_n 0, 49, 0, 0), (49, .getfield 9, 52, 0, 0), (52, .iconst 4, 53, 4, 0), (53, .idiv, 54, 0, 0), (54, .putfield 18, 57, 0, 7), (57, .aload_n 0, 58, 0, 0)]
def CX6_init_1 : List zEn := [(58, .aload_n 0, 59, 0, 0), (59, .getfield 9, 62, 0, 0), (62, .newarray .int, 64, 0, 0), (64, .putfield 21, 67, 0, 11), (67, .aload_n 0, 68, 0, 0), (68, .aload_n 0, 69, 0, 0), (69, .getfield 9, 72, 0, 0), (72, .bipush 8, 74, 8, 0), (74, .idiv, 75, 0, 0), (75, .newarray .int, 77, 0, 0), (77, .putfield 25, 80, 0, 12), (80, .aload_n 0, 81, 0, 0), (81, .iconst 0, 82, 0, 0), (82, .aload_n 0, 83, 0, 0), (83, .getfield 15, 86, 0, 3), (86, .sipush 249, 89, 249, 0), (89, .invokevirtual 28, 92, 0, 4), (92, .aload_n 0, 93, 0, 0), (93, .aload_n 0, 94, 0, 0), (94, .getfield 18, 97, 0, 7), (97, .aload_n 0, 98, 0, 0), (98, .getfield 9, 101, 0, 0), (101, .aload_n 0, 102, 0, 0), (102, .getfield 18, 105, 0, 7), (105, .isub, 106, 0, 0), (106, .sipush 250, 109, 250, 0), (109, .invokevirtual 28, 112, 0, 4), (112, .return_, 113, 0, 0)]
def MX6_init : zMI := (yX6_init, cX6_init, 2, none, [(58, CX6_init_0), (99999, CX6_init_1)], [])
theorem DX6_init_0 : CX6_init_0.all (zchk cX6_init) = true := by decide +kernel
theorem DX6_init_1 : CX6_init_1.all (zchk cX6_init) = true := by decide +kernel
theorem OX6_init : zMOK MX6_init := by
  intro q hq e he
  simp only [MX6_init, zFt, List.mem_cons, List.not_mem_nil, or_false] at hq
  rcases hq with rfl | rfl
  · exact List.all_eq_true.mp DX6_init_0 e he
  · exact List.all_eq_true.mp DX6_init_1 e he
theorem KX6_init : zMK MX6_init := ⟨OX6_init, by decide +kernel, z_in (List.mem_of_getElem? (i := 41) (by decide +kernel)), z_in (List.mem_of_getElem? (i := 2) (by decide +kernel)), by decide +kernel, by decide +kernel⟩
theorem IX6_init : Jvm.Cond.instanceMethod yX6_init ∈ lw_tbl := z_in (List.mem_of_getElem? (i := 40) (by decide +kernel))
def CX6_isAddress_0 : List zEn := [(0, .iload_n 1, 1, 0, 0), (1, .ifCond .lt 15, 4, 0, 16), (4, .iload_n 1, 5, 0, 0), (5, .aload_n 0, 6, 0, 0), (6, .getfield 9, 9, 0, 0), (9, .if_icmp .ge 7, 12, 0, 16), (12, .iconst 1, 13, 1, 0), (13, .goto 4, 16, 0, 17), (16, .iconst 0, 17, 0, 0), (17, .ireturn, 18, 0, 0)]
def MX6_isAddress : zMI := (yX6_isAddress, cX6_isAddress, 2, (some .boolean), [(99999, CX6_isAddress_0)], [])
theorem DX6_isAddress_0 : CX6_isAddress_0.all (zchk cX6_isAddress) = true := by decide +kernel
theorem OX6_isAddress : zMOK MX6_isAddress := by
  intro q hq e he
  simp only [MX6_isAddress, zFt, List.mem_cons, List.not_mem_nil, or_false] at hq
  rcases hq with rfl
  · exact List.all_eq_true.mp DX6_isAddress_0 e he
theorem KX6_isAddress : zMK MX6_isAddress := ⟨OX6_isAddress, by decide +kernel, z_in (List.mem_of_getElem? (i := 246) (by decide +kernel)), z_in (List.mem_of_getElem? (i := 2) (by decide +kernel)), by decide +kernel, by decide +kernel⟩
theorem IX6_isAddress : Jvm.Cond.instanceMethod yX6_isAddress ∈ lw_tbl := z_in (List.mem_of_getElem? (i := 244) (by decide +kernel))
theorem VX6_isAddress : Jvm.Cond.selects "ShadowWard$Memory" yX6_isAddress yX6_isAddress ∈ lw_tbl := z_in (List.mem_of_getElem? (i := 245) (by decide +kernel))
def CX6_holds_0 : List zEn := [(0, .iload_n 2, 1, 0, 0), (1, .ifCond .eq 29, 4, 0, 30), (4, .iload_n 2, 5, 0, 0), (5, .ifCond .le 29, 8, 0, 34), (8, .iload_n 2, 9, 0, 0), (9, .aload_n 0, 10, 0, 0), (10, .getfield 9, 13, 0, 0), (13, .if_icmp .gt 21, 16, 0, 34), (16, .iload_n 1, 17, 0, 0), (17, .ifCond .lt 17, 20, 0, 34), (20, .iload_n 1, 21, 0, 0), (21, .aload_n 0, 22, 0, 0), (22, .getfield 9, 25, 0, 0), (25, .iload_n 2, 26, 0, 0), (26, .isub, 27, 0, 0), (27, .if_icmp .gt 7, 30, 0, 34), (30, .iconst 1, 31, 1, 0), (31, .goto 4, 34, 0, 35), (34, .iconst 0, 35, 0, 0), (35, .ireturn, 36, 0, 0)]
def MX6_holds : zMI := (yX6_holds, cX6_holds, 3, (some .boolean), [(99999, CX6_holds_0)], [])
theorem DX6_holds_0 : CX6_holds_0.all (zchk cX6_holds) = true := by decide +kernel
theorem OX6_holds : zMOK MX6_holds := by
  intro q hq e he
  simp only [MX6_holds, zFt, List.mem_cons, List.not_mem_nil, or_false] at hq
  rcases hq with rfl
  · exact List.all_eq_true.mp DX6_holds_0 e he
theorem KX6_holds : zMK MX6_holds := ⟨OX6_holds, by decide +kernel, z_in (List.mem_of_getElem? (i := 523) (by decide +kernel)), z_in (List.mem_of_getElem? (i := 2) (by decide +kernel)), by decide +kernel, by decide +kernel⟩
theorem IX6_holds : Jvm.Cond.instanceMethod yX6_holds ∈ lw_tbl := z_in (List.mem_of_getElem? (i := 521) (by decide +kernel))
theorem VX6_holds : Jvm.Cond.selects "ShadowWard$Memory" yX6_holds yX6_holds ∈ lw_tbl := z_in (List.mem_of_getElem? (i := 522) (by decide +kernel))
def CX6_granules_0 : List zEn := [(0, .aload_n 0, 1, 0, 0), (1, .getfield 25, 4, 0, 12), (4, .arraylength, 5, 0, 0), (5, .ireturn, 6, 0, 0)]
def MX6_granules : zMI := (yX6_granules, cX6_granules, 1, (some .int), [(99999, CX6_granules_0)], [])
theorem DX6_granules_0 : CX6_granules_0.all (zchk cX6_granules) = true := by decide +kernel
theorem OX6_granules : zMOK MX6_granules := by
  intro q hq e he
  simp only [MX6_granules, zFt, List.mem_cons, List.not_mem_nil, or_false] at hq
  rcases hq with rfl
  · exact List.all_eq_true.mp DX6_granules_0 e he
theorem KX6_granules : zMK MX6_granules := ⟨OX6_granules, by decide +kernel, z_in (List.mem_of_getElem? (i := 1031) (by decide +kernel)), z_in (List.mem_of_getElem? (i := 2) (by decide +kernel)), by decide +kernel, by decide +kernel⟩
theorem IX6_granules : Jvm.Cond.instanceMethod yX6_granules ∈ lw_tbl := z_in (List.mem_of_getElem? (i := 1029) (by decide +kernel))
theorem VX6_granules : Jvm.Cond.selects "ShadowWard$Memory" yX6_granules yX6_granules ∈ lw_tbl := z_in (List.mem_of_getElem? (i := 1030) (by decide +kernel))
def CX6_shadowOf_0 : List zEn := [(0, .iload_n 1, 1, 0, 0), (1, .ifCond .lt 21, 4, 0, 22), (4, .iload_n 1, 5, 0, 0), (5, .aload_n 0, 6, 0, 0), (6, .getfield 25, 9, 0, 12), (9, .arraylength, 10, 0, 0), (10, .if_icmp .ge 12, 13, 0, 22), (13, .aload_n 0, 14, 0, 0), (14, .getfield 25, 17, 0, 12), (17, .iload_n 1, 18, 0, 0), (18, .iaload, 19, 0, 0), (19, .goto 4, 22, 0, 23), (22, .iconst 0, 23, 0, 0), (23, .ireturn, 24, 0, 0)]
def MX6_shadowOf : zMI := (yX6_shadowOf, cX6_shadowOf, 2, (some .int), [(99999, CX6_shadowOf_0)], [])
theorem DX6_shadowOf_0 : CX6_shadowOf_0.all (zchk cX6_shadowOf) = true := by decide +kernel
theorem OX6_shadowOf : zMOK MX6_shadowOf := by
  intro q hq e he
  simp only [MX6_shadowOf, zFt, List.mem_cons, List.not_mem_nil, or_false] at hq
  rcases hq with rfl
  · exact List.all_eq_true.mp DX6_shadowOf_0 e he
theorem KX6_shadowOf : zMK MX6_shadowOf := ⟨OX6_shadowOf, by decide +kernel, z_in (List.mem_of_getElem? (i := 250) (by decide +kernel)), z_in (List.mem_of_getElem? (i := 2) (by decide +kernel)), by decide +kernel, by decide +kernel⟩
theorem IX6_shadowOf : Jvm.Cond.instanceMethod yX6_shadowOf ∈ lw_tbl := z_in (List.mem_of_getElem? (i := 248) (by decide +kernel))
theorem VX6_shadowOf : Jvm.Cond.selects "ShadowWard$Memory" yX6_shadowOf yX6_shadowOf ∈ lw_tbl := z_in (List.mem_of_getElem? (i := 249) (by decide +kernel))
def CX6_byteAt_0 : List zEn := [(0, .iload_n 1, 1, 0, 0), (1, .ifCond .lt 21, 4, 0, 22), (4, .iload_n 1, 5, 0, 0), (5, .aload_n 0, 6, 0, 0), (6, .getfield 21, 9, 0, 11), (9, .arraylength, 10, 0, 0), (10, .if_icmp .ge 12, 13, 0, 22), (13, .aload_n 0, 14, 0, 0), (14, .getfield 21, 17, 0, 11), (17, .iload_n 1, 18, 0, 0), (18, .iaload, 19, 0, 0), (19, .goto 4, 22, 0, 23), (22, .iconst 0, 23, 0, 0), (23, .ireturn, 24, 0, 0)]
def MX6_byteAt : zMI := (yX6_byteAt, cX6_byteAt, 2, (some .int), [(99999, CX6_byteAt_0)], [])
theorem DX6_byteAt_0 : CX6_byteAt_0.all (zchk cX6_byteAt) = true := by decide +kernel
theorem OX6_byteAt : zMOK MX6_byteAt := by
  intro q hq e he
  simp only [MX6_byteAt, zFt, List.mem_cons, List.not_mem_nil, or_false] at hq
  rcases hq with rfl
  · exact List.all_eq_true.mp DX6_byteAt_0 e he
theorem KX6_byteAt : zMK MX6_byteAt := ⟨OX6_byteAt, by decide +kernel, z_in (List.mem_of_getElem? (i := 428) (by decide +kernel)), z_in (List.mem_of_getElem? (i := 2) (by decide +kernel)), by decide +kernel, by decide +kernel⟩
theorem IX6_byteAt : Jvm.Cond.instanceMethod yX6_byteAt ∈ lw_tbl := z_in (List.mem_of_getElem? (i := 426) (by decide +kernel))
theorem VX6_byteAt : Jvm.Cond.selects "ShadowWard$Memory" yX6_byteAt yX6_byteAt ∈ lw_tbl := z_in (List.mem_of_getElem? (i := 427) (by decide +kernel))
def CX6_paint_0 : List zEn := [(0, .aload_n 0, 1, 0, 0), (1, .getfield 25, 4, 0, 12), (4, .arraylength, 5, 0, 0), (5, .iload_n 1, 6, 0, 0), (6, .iload_n 2, 7, 0, 0), (7, .iadd, 8, 0, 0), (8, .bipush 8, 10, 8, 0), (10, .invokestatic 32, 13, 0, 0), (13, .bipush 8, 15, 8, 0), (15, .idiv, 16, 0, 0), (16, .invokestatic 36, 19, 0, 5), (19, .istore 4, 21, 0, 0), (21, .iconst 0, 22, 0, 0), (22, .iload_n 1, 23, 0, 0), (23, .bipush 8, 25, 8, 0), (25, .idiv, 26, 0, 0), (26, .invokestatic 41, 29, 0, 6), (29, .istore 5, 31, 0, 0), (31, .iload 5, 33, 0, 0), (33, .iload 4, 35, 0, 0), (35, .if_icmp .ge 17, 38, 0, 52), (38, .aload_n 0, 39, 0, 0), (39, .getfield 25, 42, 0, 12), (42, .iload 5, 44, 0, 0), (44, .iload_n 3, 45, 0, 0), (45, .iastore, 46, 0, 0), (46, .iinc 5 1, 49, 1, 0), (49, .goto (-18), 52, 0, 31), (52, .return_, 53, 0, 0)]
def MX6_paint : zMI := (yX6_paint, cX6_paint, 6, none, [(99999, CX6_paint_0)], [])
theorem DX6_paint_0 : CX6_paint_0.all (zchk cX6_paint) = true := by decide +kernel
theorem OX6_paint : zMOK MX6_paint := by
  intro q hq e he
  simp only [MX6_paint, zFt, List.mem_cons, List.not_mem_nil, or_false] at hq
  rcases hq with rfl
  · exact List.all_eq_true.mp DX6_paint_0 e he
theorem KX6_paint : zMK MX6_paint := ⟨OX6_paint, by decide +kernel, z_in (List.mem_of_getElem? (i := 46) (by decide +kernel)), z_in (List.mem_of_getElem? (i := 2) (by decide +kernel)), by decide +kernel, by decide +kernel⟩
theorem IX6_paint : Jvm.Cond.instanceMethod yX6_paint ∈ lw_tbl := z_in (List.mem_of_getElem? (i := 44) (by decide +kernel))
theorem VX6_paint : Jvm.Cond.selects "ShadowWard$Memory" yX6_paint yX6_paint ∈ lw_tbl := z_in (List.mem_of_getElem? (i := 45) (by decide +kernel))
def CX6_open_0 : List zEn := [(0, .aload_n 0, 1, 0, 0), (1, .iload_n 1, 2, 0, 0), (2, .iload_n 2, 3, 0, 0), (3, .iconst 0, 4, 0, 0), (4, .invokevirtual 28, 7, 0, 4), (7, .iload_n 2, 8, 0, 0), (8, .bipush 8, 10, 8, 0), (10, .irem, 11, 0, 0), (11, .istore_n 3, 12, 0, 0), (12, .iload_n 3, 13, 0, 0), (13, .ifCond .eq 14, 16, 0, 27), (16, .aload_n 0, 17, 0, 0), (17, .iload_n 1, 18, 0, 0), (18, .iload_n 2, 19, 0, 0), (19, .iadd, 20, 0, 0), (20, .iload_n 3, 21, 0, 0), (21, .isub, 22, 0, 0), (22, .iload_n 3, 23, 0, 0), (23, .iload_n 3, 24, 0, 0), (24, .invokevirtual 28, 27, 0, 4), (27, .return_, 28, 0, 0)]
def MX6_open : zMI := (yX6_open, cX6_open, 4, none, [(99999, CX6_open_0)], [])
theorem DX6_open_0 : CX6_open_0.all (zchk cX6_open) = true := by decide +kernel
theorem OX6_open : zMOK MX6_open := by
  intro q hq e he
  simp only [MX6_open, zFt, List.mem_cons, List.not_mem_nil, or_false] at hq
  rcases hq with rfl
  · exact List.all_eq_true.mp DX6_open_0 e he
theorem KX6_open : zMK MX6_open := ⟨OX6_open, by decide +kernel, z_in (List.mem_of_getElem? (i := 670) (by decide +kernel)), z_in (List.mem_of_getElem? (i := 2) (by decide +kernel)), by decide +kernel, by decide +kernel⟩
theorem IX6_open : Jvm.Cond.instanceMethod yX6_open ∈ lw_tbl := z_in (List.mem_of_getElem? (i := 668) (by decide +kernel))
theorem VX6_open : Jvm.Cond.selects "ShadowWard$Memory" yX6_open yX6_open ∈ lw_tbl := z_in (List.mem_of_getElem? (i := 669) (by decide +kernel))
def CX6_exchangeWhole_0 : List zEn := [(0, .aload_n 0, 1, 0, 0), (1, .iload_n 1, 2, 0, 0), (2, .iload_n 2, 3, 0, 0), (3, .invokevirtual 44, 6, 0, 81), (6, .ifCond .eq 7, 9, 0, 13), (9, .iload_n 2, 10, 0, 0), (10, .ifCond .ne 5, 13, 0, 15), (13, .iconst 0, 14, 0, 0), (14, .ireturn, 15, 0, 0), (15, .iconst 0, 16, 0, 0), (16, .istore 5, 18, 0, 0), (18, .iload_n 1, 19, 0, 0), (19, .iload_n 2, 20, 0, 0), (20, .iadd, 21, 0, 0), (21, .bipush 8, 23, 8, 0), (23, .idiv, 24, 0, 0), (24, .istore 6, 26, 0, 0), (26, .iload_n 1, 27, 0, 0), (27, .bipush 8, 29, 8, 0), (29, .invokestatic 32, 32, 0, 0), (32, .bipush 8, 34, 8, 0), (34, .idiv, 35, 0, 0), (35, .istore 7, 37, 0, 0), (37, .iload 7, 39, 0, 0), (39, .iload 6, 41, 0, 0), (41, .if_icmp .ge 42, 44, 0, 83), (44, .iload 7, 46, 0, 0), (46, .aload_n 0, 47, 0, 0), (47, .getfield 25, 50, 0, 12), (50, .arraylength, 51, 0, 0)]
def CX6_exchangeWhole_1 : List zEn := [(51, .if_icmp .ge 32, 54, 0, 83), (54, .aload_n 0, 55, 0, 0), (55, .getfield 25, 58, 0, 12), (58, .iload 7, 60, 0, 0), (60, .iaload, 61, 0, 0), (61, .iload_n 3, 62, 0, 0), (62, .if_icmp .ne 15, 65, 0, 77), (65, .aload_n 0, 66, 0, 0), (66, .getfield 25, 69, 0, 12), (69, .iload 7, 71, 0, 0), (71, .iload 4, 73, 0, 0), (73, .iastore, 74, 0, 0), (74, .iinc 5 1, 77, 1, 0), (77, .iinc 7 1, 80, 1, 0), (80, .goto (-43), 83, 0, 37), (83, .iload 5, 85, 0, 0), (85, .ireturn, 86, 0, 0)]
def MX6_exchangeWhole : zMI := (yX6_exchangeWhole, cX6_exchangeWhole, 8, (some .int), [(51, CX6_exchangeWhole_0), (99999, CX6_exchangeWhole_1)], [])
theorem DX6_exchangeWhole_0 : CX6_exchangeWhole_0.all (zchk cX6_exchangeWhole) = true := by decide +kernel
theorem DX6_exchangeWhole_1 : CX6_exchangeWhole_1.all (zchk cX6_exchangeWhole) = true := by decide +kernel
theorem OX6_exchangeWhole : zMOK MX6_exchangeWhole := by
  intro q hq e he
  simp only [MX6_exchangeWhole, zFt, List.mem_cons, List.not_mem_nil, or_false] at hq
  rcases hq with rfl | rfl
  · exact List.all_eq_true.mp DX6_exchangeWhole_0 e he
  · exact List.all_eq_true.mp DX6_exchangeWhole_1 e he
theorem KX6_exchangeWhole : zMK MX6_exchangeWhole := ⟨OX6_exchangeWhole, by decide +kernel, z_in (List.mem_of_getElem? (i := 990) (by decide +kernel)), z_in (List.mem_of_getElem? (i := 2) (by decide +kernel)), by decide +kernel, by decide +kernel⟩
theorem IX6_exchangeWhole : Jvm.Cond.instanceMethod yX6_exchangeWhole ∈ lw_tbl := z_in (List.mem_of_getElem? (i := 988) (by decide +kernel))
theorem VX6_exchangeWhole : Jvm.Cond.selects "ShadowWard$Memory" yX6_exchangeWhole yX6_exchangeWhole ∈ lw_tbl := z_in (List.mem_of_getElem? (i := 989) (by decide +kernel))
def CX6_goodBytes_0 : List zEn := [(0, .iload_n 1, 1, 0, 0), (1, .ifCond .ne 6, 4, 0, 7), (4, .bipush 8, 6, 8, 0), (6, .ireturn, 7, 0, 0), (7, .iload_n 1, 8, 0, 0), (8, .bipush 8, 10, 8, 0), (10, .if_icmp .ge 7, 13, 0, 17), (13, .iload_n 1, 14, 0, 0), (14, .goto 4, 17, 0, 18), (17, .iconst 0, 18, 0, 0), (18, .ireturn, 19, 0, 0)]
def MX6_goodBytes : zMI := (yX6_goodBytes, cX6_goodBytes, 2, (some .int), [(99999, CX6_goodBytes_0)], [])
theorem DX6_goodBytes_0 : CX6_goodBytes_0.all (zchk cX6_goodBytes) = true := by decide +kernel
theorem OX6_goodBytes : zMOK MX6_goodBytes := by
  intro q hq e he
  simp only [MX6_goodBytes, zFt, List.mem_cons, List.not_mem_nil, or_false] at hq
  rcases hq with rfl
  · exact List.all_eq_true.mp DX6_goodBytes_0 e he
theorem KX6_goodBytes : zMK MX6_goodBytes := ⟨OX6_goodBytes, by decide +kernel, z_in (List.mem_of_getElem? (i := 254) (by decide +kernel)), z_in (List.mem_of_getElem? (i := 2) (by decide +kernel)), by decide +kernel, by decide +kernel⟩
theorem IX6_goodBytes : Jvm.Cond.instanceMethod yX6_goodBytes ∈ lw_tbl := z_in (List.mem_of_getElem? (i := 253) (by decide +kernel))
theorem VX6_goodBytes : Jvm.Cond.selects "ShadowWard$Memory" yX6_goodBytes yX6_goodBytes ∈ lw_tbl := List.mem_append_left _ (List.mem_of_getElem? (i := 1) (by decide +kernel))
def CX6_goodAddresses_0 : List zEn := [(0, .iconst 0, 1, 0, 0), (1, .istore_n 1, 2, 0, 0), (2, .iconst 0, 3, 0, 0), (3, .istore_n 2, 4, 0, 0), (4, .iload_n 2, 5, 0, 0), (5, .aload_n 0, 6, 0, 0), (6, .getfield 25, 9, 0, 12), (9, .arraylength, 10, 0, 0), (10, .if_icmp .ge 22, 13, 0, 32), (13, .iload_n 1, 14, 0, 0), (14, .aload_n 0, 15, 0, 0), (15, .aload_n 0, 16, 0, 0), (16, .getfield 25, 19, 0, 12), (19, .iload_n 2, 20, 0, 0), (20, .iaload, 21, 0, 0), (21, .invokevirtual 48, 24, 0, 29), (24, .iadd, 25, 0, 0), (25, .istore_n 1, 26, 0, 0), (26, .iinc 2 1, 29, 1, 0), (29, .goto (-25), 32, 0, 4), (32, .iload_n 1, 33, 0, 0), (33, .ireturn, 34, 0, 0)]
def MX6_goodAddresses : zMI := (yX6_goodAddresses, cX6_goodAddresses, 3, (some .int), [(99999, CX6_goodAddresses_0)], [])
theorem DX6_goodAddresses_0 : CX6_goodAddresses_0.all (zchk cX6_goodAddresses) = true := by decide +kernel
theorem OX6_goodAddresses : zMOK MX6_goodAddresses := by
  intro q hq e he
  simp only [MX6_goodAddresses, zFt, List.mem_cons, List.not_mem_nil, or_false] at hq
  rcases hq with rfl
  · exact List.all_eq_true.mp DX6_goodAddresses_0 e he
theorem KX6_goodAddresses : zMK MX6_goodAddresses := ⟨OX6_goodAddresses, by decide +kernel, z_in (List.mem_of_getElem? (i := 1057) (by decide +kernel)), z_in (List.mem_of_getElem? (i := 2) (by decide +kernel)), by decide +kernel, by decide +kernel⟩
theorem IX6_goodAddresses : Jvm.Cond.instanceMethod yX6_goodAddresses ∈ lw_tbl := z_in (List.mem_of_getElem? (i := 1055) (by decide +kernel))
theorem VX6_goodAddresses : Jvm.Cond.selects "ShadowWard$Memory" yX6_goodAddresses yX6_goodAddresses ∈ lw_tbl := z_in (List.mem_of_getElem? (i := 1056) (by decide +kernel))
def CX6_isGood_0 : List zEn := [(0, .aload_n 0, 1, 0, 0), (1, .iload_n 1, 2, 0, 0), (2, .invokevirtual 52, 5, 0, 27), (5, .ifCond .eq 26, 8, 0, 31), (8, .iload_n 1, 9, 0, 0), (9, .bipush 8, 11, 8, 0), (11, .irem, 12, 0, 0), (12, .aload_n 0, 13, 0, 0), (13, .aload_n 0, 14, 0, 0), (14, .iload_n 1, 15, 0, 0), (15, .bipush 8, 17, 8, 0), (17, .idiv, 18, 0, 0), (18, .invokevirtual 56, 21, 0, 28), (21, .invokevirtual 48, 24, 0, 29), (24, .if_icmp .ge 7, 27, 0, 31), (27, .iconst 1, 28, 1, 0), (28, .goto 4, 31, 0, 32), (31, .iconst 0, 32, 0, 0), (32, .ireturn, 33, 0, 0)]
def MX6_isGood : zMI := (yX6_isGood, cX6_isGood, 2, (some .boolean), [(99999, CX6_isGood_0)], [])
theorem DX6_isGood_0 : CX6_isGood_0.all (zchk cX6_isGood) = true := by decide +kernel
theorem OX6_isGood : zMOK MX6_isGood := by
  intro q hq e he
  simp only [MX6_isGood, zFt, List.mem_cons, List.not_mem_nil, or_false] at hq
  rcases hq with rfl
  · exact List.all_eq_true.mp DX6_isGood_0 e he
theorem KX6_isGood : zMK MX6_isGood := ⟨OX6_isGood, by decide +kernel, z_in (List.mem_of_getElem? (i := 242) (by decide +kernel)), z_in (List.mem_of_getElem? (i := 2) (by decide +kernel)), by decide +kernel, by decide +kernel⟩
theorem IX6_isGood : Jvm.Cond.instanceMethod yX6_isGood ∈ lw_tbl := z_in (List.mem_of_getElem? (i := 240) (by decide +kernel))
theorem VX6_isGood : Jvm.Cond.selects "ShadowWard$Memory" yX6_isGood yX6_isGood ∈ lw_tbl := z_in (List.mem_of_getElem? (i := 241) (by decide +kernel))
def CX6_firstWrong_0 : List zEn := [(0, .iconst 0, 1, 0, 0), (1, .istore_n 3, 2, 0, 0), (2, .iload_n 3, 3, 0, 0), (3, .iload_n 2, 4, 0, 0), (4, .if_icmp .ge 21, 7, 0, 25), (7, .aload_n 0, 8, 0, 0), (8, .iload_n 1, 9, 0, 0), (9, .iload_n 3, 10, 0, 0), (10, .iadd, 11, 0, 0), (11, .invokevirtual 59, 14, 0, 26), (14, .ifCond .ne 5, 17, 0, 19), (17, .iload_n 3, 18, 0, 0), (18, .ireturn, 19, 0, 0), (19, .iinc 3 1, 22, 1, 0), (22, .goto (-20), 25, 0, 2), (25, .iconst (-1), 26, (-1), 0), (26, .ireturn, 27, 0, 0)]
def MX6_firstWrong : zMI := (yX6_firstWrong, cX6_firstWrong, 4, (some .int), [(99999, CX6_firstWrong_0)], [])
theorem DX6_firstWrong_0 : CX6_firstWrong_0.all (zchk cX6_firstWrong) = true := by decide +kernel
theorem OX6_firstWrong : zMOK MX6_firstWrong := by
  intro q hq e he
  simp only [MX6_firstWrong, zFt, List.mem_cons, List.not_mem_nil, or_false] at hq
  rcases hq with rfl
  · exact List.all_eq_true.mp DX6_firstWrong_0 e he
theorem KX6_firstWrong : zMK MX6_firstWrong := ⟨OX6_firstWrong, by decide +kernel, z_in (List.mem_of_getElem? (i := 238) (by decide +kernel)), z_in (List.mem_of_getElem? (i := 2) (by decide +kernel)), by decide +kernel, by decide +kernel⟩
theorem IX6_firstWrong : Jvm.Cond.instanceMethod yX6_firstWrong ∈ lw_tbl := z_in (List.mem_of_getElem? (i := 236) (by decide +kernel))
theorem VX6_firstWrong : Jvm.Cond.selects "ShadowWard$Memory" yX6_firstWrong yX6_firstWrong ∈ lw_tbl := z_in (List.mem_of_getElem? (i := 237) (by decide +kernel))
def CX6_kindOfWrong_0 : List zEn := [(0, .aload_n 0, 1, 0, 0), (1, .iload_n 1, 2, 0, 0), (2, .invokevirtual 52, 5, 0, 27), (5, .ifCond .ne 6, 8, 0, 11), (8, .bipush 9, 10, 9, 0), (10, .ireturn, 11, 0, 0), (11, .aload_n 0, 12, 0, 0), (12, .iload_n 1, 13, 0, 0), (13, .bipush 8, 15, 8, 0), (15, .idiv, 16, 0, 0), (16, .invokevirtual 56, 19, 0, 28), (19, .istore_n 2, 20, 0, 0), (20, .aload_n 0, 21, 0, 0), (21, .iload_n 2, 22, 0, 0), (22, .invokevirtual 48, 25, 0, 29), (25, .ifCond .le 14, 28, 0, 39), (28, .aload_n 0, 29, 0, 0), (29, .iload_n 1, 30, 0, 0), (30, .bipush 8, 32, 8, 0), (32, .idiv, 33, 0, 0), (33, .iconst 1, 34, 1, 0), (34, .iadd, 35, 0, 0), (35, .invokevirtual 56, 38, 0, 28), (38, .istore_n 2, 39, 0, 0), (39, .iload_n 2, 40, 0, 0), (40, .tableswitch 86 241 253 #[72, 74, 76, 86, 78, 86, 86, 80, 83, 68, 86, 86, 70], 108, 0, 0), (108, .iconst 1, 109, 1, 0), (109, .ireturn, 110, 0, 0), (110, .iconst 2, 111, 2, 0), (111, .ireturn, 112, 0, 0)]
def CX6_kindOfWrong_1 : List zEn := [(112, .iconst 3, 113, 3, 0), (113, .ireturn, 114, 0, 0), (114, .iconst 4, 115, 4, 0), (115, .ireturn, 116, 0, 0), (116, .iconst 4, 117, 4, 0), (117, .ireturn, 118, 0, 0), (118, .iconst 5, 119, 5, 0), (119, .ireturn, 120, 0, 0), (120, .bipush 6, 122, 6, 0), (122, .ireturn, 123, 0, 0), (123, .bipush 7, 125, 7, 0), (125, .ireturn, 126, 0, 0), (126, .bipush 8, 128, 8, 0), (128, .ireturn, 129, 0, 0)]
def MX6_kindOfWrong : zMI := (yX6_kindOfWrong, cX6_kindOfWrong, 3, (some .int), [(112, CX6_kindOfWrong_0), (99999, CX6_kindOfWrong_1)], [])
theorem DX6_kindOfWrong_0 : CX6_kindOfWrong_0.all (zchk cX6_kindOfWrong) = true := by decide +kernel
theorem DX6_kindOfWrong_1 : CX6_kindOfWrong_1.all (zchk cX6_kindOfWrong) = true := by decide +kernel
theorem OX6_kindOfWrong : zMOK MX6_kindOfWrong := by
  intro q hq e he
  simp only [MX6_kindOfWrong, zFt, List.mem_cons, List.not_mem_nil, or_false] at hq
  rcases hq with rfl | rfl
  · exact List.all_eq_true.mp DX6_kindOfWrong_0 e he
  · exact List.all_eq_true.mp DX6_kindOfWrong_1 e he
theorem KX6_kindOfWrong : zMK MX6_kindOfWrong := ⟨OX6_kindOfWrong, by decide +kernel, z_in (List.mem_of_getElem? (i := 258) (by decide +kernel)), z_in (List.mem_of_getElem? (i := 2) (by decide +kernel)), by decide +kernel, by decide +kernel⟩
theorem IX6_kindOfWrong : Jvm.Cond.instanceMethod yX6_kindOfWrong ∈ lw_tbl := z_in (List.mem_of_getElem? (i := 256) (by decide +kernel))
theorem VX6_kindOfWrong : Jvm.Cond.selects "ShadowWard$Memory" yX6_kindOfWrong yX6_kindOfWrong ∈ lw_tbl := z_in (List.mem_of_getElem? (i := 257) (by decide +kernel))
def CX6_number_0 : List zEn := [(0, .lconst 0, 1, 0, 0), (1, .lstore_n 3, 2, 0, 0), (2, .iload_n 2, 3, 0, 0), (3, .iconst 1, 4, 1, 0), (4, .isub, 5, 0, 0), (5, .istore 5, 7, 0, 0), (7, .iload 5, 9, 0, 0), (9, .ifCond .lt 24, 12, 0, 33), (12, .lload_n 3, 13, 0, 0), (13, .bipush 8, 15, 8, 0), (15, .lshl, 16, 0, 0), (16, .aload_n 0, 17, 0, 0), (17, .iload_n 1, 18, 0, 0), (18, .iload 5, 20, 0, 0), (20, .iadd, 21, 0, 0), (21, .invokevirtual 62, 24, 0, 92), (24, .i2l, 25, 0, 0), (25, .lor, 26, 0, 0), (26, .lstore_n 3, 27, 0, 0), (27, .iinc 5 (-1), 30, (-1), 0), (30, .goto (-23), 33, 0, 7), (33, .lload_n 3, 34, 0, 0), (34, .lreturn, 35, 0, 0)]
def MX6_number : zMI := (yX6_number, cX6_number, 6, (some .long), [(99999, CX6_number_0)], [])
theorem DX6_number_0 : CX6_number_0.all (zchk cX6_number) = true := by decide +kernel
theorem OX6_number : zMOK MX6_number := by
  intro q hq e he
  simp only [MX6_number, zFt, List.mem_cons, List.not_mem_nil, or_false] at hq
  rcases hq with rfl
  · exact List.all_eq_true.mp DX6_number_0 e he
theorem KX6_number : zMK MX6_number := ⟨OX6_number, by decide +kernel, z_in (List.mem_of_getElem? (i := 556) (by decide +kernel)), z_in (List.mem_of_getElem? (i := 2) (by decide +kernel)), by decide +kernel, by decide +kernel⟩
theorem IX6_number : Jvm.Cond.instanceMethod yX6_number ∈ lw_tbl := z_in (List.mem_of_getElem? (i := 554) (by decide +kernel))
theorem VX6_number : Jvm.Cond.selects "ShadowWard$Memory" yX6_number yX6_number ∈ lw_tbl := z_in (List.mem_of_getElem? (i := 555) (by decide +kernel))
def CX6_setNumber_0 : List zEn := [(0, .aload_n 0, 1, 0, 0), (1, .iload_n 1, 2, 0, 0), (2, .iload_n 2, 3, 0, 0), (3, .invokevirtual 44, 6, 0, 81), (6, .ifCond .ne 4, 9, 0, 10), (9, .return_, 10, 0, 0), (10, .iconst 0, 11, 0, 0), (11, .istore 5, 13, 0, 0), (13, .iload 5, 15, 0, 0), (15, .iload_n 2, 16, 0, 0), (16, .if_icmp .ge 30, 19, 0, 46), (19, .aload_n 0, 20, 0, 0), (20, .getfield 21, 23, 0, 11), (23, .iload_n 1, 24, 0, 0), (24, .iload 5, 26, 0, 0), (26, .iadd, 27, 0, 0), (27, .lload_n 3, 28, 0, 0), (28, .bipush 8, 30, 8, 0), (30, .iload 5, 32, 0, 0), (32, .imul, 33, 0, 0), (33, .lushr, 34, 0, 0), (34, .l2i, 35, 0, 0), (35, .sipush 255, 38, 255, 0), (38, .iand, 39, 0, 0), (39, .iastore, 40, 0, 0), (40, .iinc 5 1, 43, 1, 0), (43, .goto (-30), 46, 0, 13), (46, .return_, 47, 0, 0)]
def MX6_setNumber : zMI := (yX6_setNumber, cX6_setNumber, 6, none, [(99999, CX6_setNumber_0)], [])
theorem DX6_setNumber_0 : CX6_setNumber_0.all (zchk cX6_setNumber) = true := by decide +kernel
theorem OX6_setNumber : zMOK MX6_setNumber := by
  intro q hq e he
  simp only [MX6_setNumber, zFt, List.mem_cons, List.not_mem_nil, or_false] at hq
  rcases hq with rfl
  · exact List.all_eq_true.mp DX6_setNumber_0 e he
theorem KX6_setNumber : zMK MX6_setNumber := ⟨OX6_setNumber, by decide +kernel, z_in (List.mem_of_getElem? (i := 959) (by decide +kernel)), z_in (List.mem_of_getElem? (i := 2) (by decide +kernel)), by decide +kernel, by decide +kernel⟩
theorem IX6_setNumber : Jvm.Cond.instanceMethod yX6_setNumber ∈ lw_tbl := z_in (List.mem_of_getElem? (i := 957) (by decide +kernel))
theorem VX6_setNumber : Jvm.Cond.selects "ShadowWard$Memory" yX6_setNumber yX6_setNumber ∈ lw_tbl := z_in (List.mem_of_getElem? (i := 958) (by decide +kernel))
def CX6_setBytes_0 : List zEn := [(0, .aload_n 0, 1, 0, 0), (1, .iload_n 1, 2, 0, 0), (2, .iload_n 2, 3, 0, 0), (3, .invokevirtual 44, 6, 0, 81), (6, .ifCond .ne 4, 9, 0, 10), (9, .return_, 10, 0, 0), (10, .iconst 0, 11, 0, 0), (11, .istore 4, 13, 0, 0), (13, .iload 4, 15, 0, 0), (15, .iload_n 2, 16, 0, 0), (16, .if_icmp .ge 23, 19, 0, 39), (19, .aload_n 0, 20, 0, 0), (20, .getfield 21, 23, 0, 11), (23, .iload_n 1, 24, 0, 0), (24, .iload 4, 26, 0, 0), (26, .iadd, 27, 0, 0), (27, .iload_n 3, 28, 0, 0), (28, .sipush 255, 31, 255, 0), (31, .iand, 32, 0, 0), (32, .iastore, 33, 0, 0), (33, .iinc 4 1, 36, 1, 0), (36, .goto (-23), 39, 0, 13), (39, .return_, 40, 0, 0)]
def MX6_setBytes : zMI := (yX6_setBytes, cX6_setBytes, 5, none, [(99999, CX6_setBytes_0)], [])
theorem DX6_setBytes_0 : CX6_setBytes_0.all (zchk cX6_setBytes) = true := by decide +kernel
theorem OX6_setBytes : zMOK MX6_setBytes := by
  intro q hq e he
  simp only [MX6_setBytes, zFt, List.mem_cons, List.not_mem_nil, or_false] at hq
  rcases hq with rfl
  · exact List.all_eq_true.mp DX6_setBytes_0 e he
theorem KX6_setBytes : zMK MX6_setBytes := ⟨OX6_setBytes, by decide +kernel, z_in (List.mem_of_getElem? (i := 911) (by decide +kernel)), z_in (List.mem_of_getElem? (i := 2) (by decide +kernel)), by decide +kernel, by decide +kernel⟩
theorem IX6_setBytes : Jvm.Cond.instanceMethod yX6_setBytes ∈ lw_tbl := z_in (List.mem_of_getElem? (i := 909) (by decide +kernel))
theorem VX6_setBytes : Jvm.Cond.selects "ShadowWard$Memory" yX6_setBytes yX6_setBytes ∈ lw_tbl := z_in (List.mem_of_getElem? (i := 910) (by decide +kernel))
def CX6_moveBytes_0 : List zEn := [(0, .iload_n 3, 1, 0, 0), (1, .ifCond .le 35, 4, 0, 36), (4, .aload_n 0, 5, 0, 0), (5, .iload_n 1, 6, 0, 0), (6, .iload_n 3, 7, 0, 0), (7, .invokevirtual 44, 10, 0, 81), (10, .ifCond .eq 26, 13, 0, 36), (13, .aload_n 0, 14, 0, 0), (14, .iload_n 2, 15, 0, 0), (15, .iload_n 3, 16, 0, 0), (16, .invokevirtual 44, 19, 0, 81), (19, .ifCond .eq 17, 22, 0, 36), (22, .aload_n 0, 23, 0, 0), (23, .getfield 21, 26, 0, 11), (26, .iload_n 2, 27, 0, 0), (27, .aload_n 0, 28, 0, 0), (28, .getfield 21, 31, 0, 11), (31, .iload_n 1, 32, 0, 0), (32, .iload_n 3, 33, 0, 0), (33, .invokestatic 65, 36, 0, 82), (36, .return_, 37, 0, 0)]
def MX6_moveBytes : zMI := (yX6_moveBytes, cX6_moveBytes, 4, none, [(99999, CX6_moveBytes_0)], [])
theorem DX6_moveBytes_0 : CX6_moveBytes_0.all (zchk cX6_moveBytes) = true := by decide +kernel
theorem OX6_moveBytes : zMOK MX6_moveBytes := by
  intro q hq e he
  simp only [MX6_moveBytes, zFt, List.mem_cons, List.not_mem_nil, or_false] at hq
  rcases hq with rfl
  · exact List.all_eq_true.mp DX6_moveBytes_0 e he
theorem KX6_moveBytes : zMK MX6_moveBytes := ⟨OX6_moveBytes, by decide +kernel, z_in (List.mem_of_getElem? (i := 519) (by decide +kernel)), z_in (List.mem_of_getElem? (i := 2) (by decide +kernel)), by decide +kernel, by decide +kernel⟩
theorem IX6_moveBytes : Jvm.Cond.instanceMethod yX6_moveBytes ∈ lw_tbl := z_in (List.mem_of_getElem? (i := 517) (by decide +kernel))
theorem VX6_moveBytes : Jvm.Cond.selects "ShadowWard$Memory" yX6_moveBytes yX6_moveBytes ∈ lw_tbl := z_in (List.mem_of_getElem? (i := 518) (by decide +kernel))
def CX7_init_0 : List zEn := [(0, .aload_n 0, 1, 0, 0), (1, .invokespecial 1, 4, 0, 108), (4, .aload_n 0, 5, 0, 0), (5, .iload_n 1, 6, 0, 0), (6, .putfield 7, 9, 0, 71), (9, .aload_n 0, 10, 0, 0), (10, .iload_n 2, 11, 0, 0), (11, .putfield 13, 14, 0, 73), (14, .aload_n 0, 15, 0, 0), (15, .iload_n 3, 16, 0, 0), (16, .putfield 16, 19, 0, 76), (19, .aload_n 0, 20, 0, 0), (20, .iload 4, 22, 0, 0), (22, .putfield 19, 25, 0, 85), (25, .aload_n 0, 26, 0, 0), (26, .iload_n 3, 27, 0, 0), (27, .iload 4, 29, 0, 0), (29, .iadd, 30, 0, 0), (30, .putfield 22, 33, 0, 90), (33, .aload_n 0, 34, 0, 0), (34, .iload 5, 36, 0, 0), (36, .putfield 25, 39, 0, 94), (39, .return_, 40, 0, 0)]
def MX7_init : zMI := (yX7_init, cX7_init, 6, none, [(99999, CX7_init_0)], [])
theorem DX7_init_0 : CX7_init_0.all (zchk cX7_init) = true := by decide +kernel
theorem OX7_init : zMOK MX7_init := by
  intro q hq e he
  simp only [MX7_init, zFt, List.mem_cons, List.not_mem_nil, or_false] at hq
  rcases hq with rfl
  · exact List.all_eq_true.mp DX7_init_0 e he
theorem KX7_init : zMK MX7_init := ⟨OX7_init, by decide +kernel, z_in (List.mem_of_getElem? (i := 612) (by decide +kernel)), z_in (List.mem_of_getElem? (i := 18) (by decide +kernel)), by decide +kernel, by decide +kernel⟩
theorem IX7_init : Jvm.Cond.instanceMethod yX7_init ∈ lw_tbl := z_in (List.mem_of_getElem? (i := 611) (by decide +kernel))
def CX7_hasByte_0 : List zEn := [(0, .iload_n 1, 1, 0, 0), (1, .aload_n 0, 2, 0, 0), (2, .getfield 16, 5, 0, 76), (5, .if_icmp .lt 15, 8, 0, 20), (8, .iload_n 1, 9, 0, 0), (9, .aload_n 0, 10, 0, 0), (10, .getfield 22, 13, 0, 90), (13, .if_icmp .ge 7, 16, 0, 20), (16, .iconst 1, 17, 1, 0), (17, .goto 4, 20, 0, 21), (20, .iconst 0, 21, 0, 0), (21, .ireturn, 22, 0, 0)]
def MX7_hasByte : zMI := (yX7_hasByte, cX7_hasByte, 2, (some .boolean), [(99999, CX7_hasByte_0)], [])
theorem DX7_hasByte_0 : CX7_hasByte_0.all (zchk cX7_hasByte) = true := by decide +kernel
theorem OX7_hasByte : zMOK MX7_hasByte := by
  intro q hq e he
  simp only [MX7_hasByte, zFt, List.mem_cons, List.not_mem_nil, or_false] at hq
  rcases hq with rfl
  · exact List.all_eq_true.mp DX7_hasByte_0 e he
theorem KX7_hasByte : zMK MX7_hasByte := ⟨OX7_hasByte, by decide +kernel, z_in (List.mem_of_getElem? (i := 571) (by decide +kernel)), z_in (List.mem_of_getElem? (i := 18) (by decide +kernel)), by decide +kernel, by decide +kernel⟩
theorem IX7_hasByte : Jvm.Cond.instanceMethod yX7_hasByte ∈ lw_tbl := z_in (List.mem_of_getElem? (i := 570) (by decide +kernel))
def CX7_farFrom_0 : List zEn := [(0, .iload_n 1, 1, 0, 0), (1, .aload_n 0, 2, 0, 0), (2, .getfield 16, 5, 0, 76), (5, .if_icmp .ge 10, 8, 0, 15), (8, .aload_n 0, 9, 0, 0), (9, .getfield 16, 12, 0, 76), (12, .iload_n 1, 13, 0, 0), (13, .isub, 14, 0, 0), (14, .ireturn, 15, 0, 0), (15, .iload_n 1, 16, 0, 0), (16, .aload_n 0, 17, 0, 0), (17, .getfield 22, 20, 0, 90), (20, .if_icmp .ge 7, 23, 0, 27), (23, .iconst 0, 24, 0, 0), (24, .goto 11, 27, 0, 35), (27, .iload_n 1, 28, 0, 0), (28, .aload_n 0, 29, 0, 0), (29, .getfield 22, 32, 0, 90), (32, .isub, 33, 0, 0), (33, .iconst 1, 34, 1, 0), (34, .iadd, 35, 0, 0), (35, .ireturn, 36, 0, 0)]
def MX7_farFrom : zMI := (yX7_farFrom, cX7_farFrom, 2, (some .int), [(99999, CX7_farFrom_0)], [])
theorem DX7_farFrom_0 : CX7_farFrom_0.all (zchk cX7_farFrom) = true := by decide +kernel
theorem OX7_farFrom : zMOK MX7_farFrom := by
  intro q hq e he
  simp only [MX7_farFrom, zFt, List.mem_cons, List.not_mem_nil, or_false] at hq
  rcases hq with rfl
  · exact List.all_eq_true.mp DX7_farFrom_0 e he
theorem KX7_farFrom : zMK MX7_farFrom := ⟨OX7_farFrom, by decide +kernel, z_in (List.mem_of_getElem? (i := 297) (by decide +kernel)), z_in (List.mem_of_getElem? (i := 18) (by decide +kernel)), by decide +kernel, by decide +kernel⟩
theorem IX7_farFrom : Jvm.Cond.instanceMethod yX7_farFrom ∈ lw_tbl := z_in (List.mem_of_getElem? (i := 292) (by decide +kernel))
theorem VX7_farFrom : Jvm.Cond.selects "ShadowWard$Region" yX7_farFrom yX7_farFrom ∈ lw_tbl := z_in (List.mem_of_getElem? (i := 293) (by decide +kernel))
theorem VX7_farFrom_Block : Jvm.Cond.selects "ShadowWard$Block" yX7_farFrom yX7_farFrom ∈ lw_tbl := z_in (List.mem_of_getElem? (i := 295) (by decide +kernel))
theorem VX7_farFrom_Variable : Jvm.Cond.selects "ShadowWard$Variable" yX7_farFrom yX7_farFrom ∈ lw_tbl := z_in (List.mem_of_getElem? (i := 296) (by decide +kernel))
def CX7_sideOf_0 : List zEn := [(0, .iload_n 1, 1, 0, 0), (1, .aload_n 0, 2, 0, 0), (2, .getfield 16, 5, 0, 76), (5, .if_icmp .ge 5, 8, 0, 10), (8, .iconst 2, 9, 2, 0), (9, .ireturn, 10, 0, 0), (10, .iload_n 1, 11, 0, 0), (11, .aload_n 0, 12, 0, 0), (12, .getfield 22, 15, 0, 90), (15, .if_icmp .ge 7, 18, 0, 22), (18, .iconst 0, 19, 0, 0), (19, .goto 4, 22, 0, 23), (22, .iconst 1, 23, 1, 0), (23, .ireturn, 24, 0, 0)]
def MX7_sideOf : zMI := (yX7_sideOf, cX7_sideOf, 2, (some .int), [(99999, CX7_sideOf_0)], [])
theorem DX7_sideOf_0 : CX7_sideOf_0.all (zchk cX7_sideOf) = true := by decide +kernel
theorem OX7_sideOf : zMOK MX7_sideOf := by
  intro q hq e he
  simp only [MX7_sideOf, zFt, List.mem_cons, List.not_mem_nil, or_false] at hq
  rcases hq with rfl
  · exact List.all_eq_true.mp DX7_sideOf_0 e he
theorem KX7_sideOf : zMK MX7_sideOf := ⟨OX7_sideOf, by decide +kernel, z_in (List.mem_of_getElem? (i := 334) (by decide +kernel)), z_in (List.mem_of_getElem? (i := 18) (by decide +kernel)), by decide +kernel, by decide +kernel⟩
theorem IX7_sideOf : Jvm.Cond.instanceMethod yX7_sideOf ∈ lw_tbl := z_in (List.mem_of_getElem? (i := 329) (by decide +kernel))
theorem VX7_sideOf : Jvm.Cond.selects "ShadowWard$Region" yX7_sideOf yX7_sideOf ∈ lw_tbl := z_in (List.mem_of_getElem? (i := 330) (by decide +kernel))
theorem VX7_sideOf_Block : Jvm.Cond.selects "ShadowWard$Block" yX7_sideOf yX7_sideOf ∈ lw_tbl := z_in (List.mem_of_getElem? (i := 332) (by decide +kernel))
theorem VX7_sideOf_Variable : Jvm.Cond.selects "ShadowWard$Variable" yX7_sideOf yX7_sideOf ∈ lw_tbl := z_in (List.mem_of_getElem? (i := 333) (by decide +kernel))
def CX8_init_0 : List zEn := [(0, .aload_n 0, 1, 0, 0), (1, .invokespecial 3, 4, 0, 50), (4, .aload_n 0, 5, 0, 0), (5, .iconst 0, 6, 0, 0), (6, .putfield 9, 9, 0, 57), (9, .aload_n 0, 10, 0, 0), (10, .iconst (-1), 11, (-1), 0), (11, .putfield 15, 14, 0, 58), (14, .aload_n 0, 15, 0, 0), (15, .iconst 0, 16, 0, 0), (16, .putfield 18, 19, 0, 59), (19, .aload_n 0, 20, 0, 0), (20, .iconst 0, 21, 0, 0), (21, .putfield 21, 24, 0, 60), (24, .aload_n 0, 25, 0, 0), (25, .iconst 0, 26, 0, 0), (26, .putfield 24, 29, 0, 61), (29, .aload_n 0, 30, 0, 0), (30, .iconst 0, 31, 0, 0), (31, .putfield 27, 34, 0, 62), (34, .aload_n 0, 35, 0, 0), (35, .iload_n 1, 36, 0, 0), (36, .putfield 30, 39, 0, 53), (39, .aload_n 0, 40, 0, 0), (40, .iload_n 2, 41, 0, 0), (41, .putfield 33, 44, 0, 54), (44, .aload_n 0, 45, 0, 0), (45, .iload_n 3, 46, 0, 0), (46, .putfield 36, 49, 0, 55), (49, .aload_n 0, 50, 0, 0)]
def CX8_init_1 : List zEn := [(50, .iload 4, 52, 0, 0), (52, .putfield 39, 55, 0, 56), (55, .aload 5, 57, 0, 0), (57, .ifnull 59, 60, 0, 116), (60, .aload_n 0, 61, 0, 0), (61, .aload 5, 63, 0, 0), (63, .getfield 42, 66, 0, 72), (66, .putfield 9, 69, 0, 57), (69, .aload_n 0, 70, 0, 0), (70, .aload 5, 72, 0, 0), (72, .getfield 45, 75, 0, 74), (75, .putfield 15, 78, 0, 58), (78, .aload_n 0, 79, 0, 0), (79, .aload 5, 81, 0, 0), (81, .iload_n 2, 82, 0, 0), (82, .invokevirtual 46, 85, 0, 51), (85, .putfield 18, 88, 0, 59), (88, .aload_n 0, 89, 0, 0), (89, .aload 5, 91, 0, 0), (91, .iload_n 2, 92, 0, 0), (92, .invokevirtual 50, 95, 0, 52), (95, .putfield 21, 98, 0, 60), (98, .aload_n 0, 99, 0, 0), (99, .aload 5, 101, 0, 0), (101, .getfield 53, 104, 0, 95), (104, .putfield 24, 107, 0, 61), (107, .aload_n 0, 108, 0, 0), (108, .aload 5, 110, 0, 0), (110, .getfield 54, 113, 0, 97), (113, .putfield 27, 116, 0, 62)]
def CX8_init_2 : List zEn := [(116, .return_, 117, 0, 0)]
def MX8_init : zMI := (yX8_init, cX8_init, 6, none, [(50, CX8_init_0), (116, CX8_init_1), (99999, CX8_init_2)], [])
theorem DX8_init_0 : CX8_init_0.all (zchk cX8_init) = true := by decide +kernel
theorem DX8_init_1 : CX8_init_1.all (zchk cX8_init) = true := by decide +kernel
theorem DX8_init_2 : CX8_init_2.all (zchk cX8_init) = true := by decide +kernel
theorem OX8_init : zMOK MX8_init := by
  intro q hq e he
  simp only [MX8_init, zFt, List.mem_cons, List.not_mem_nil, or_false] at hq
  rcases hq with rfl | rfl | rfl
  · exact List.all_eq_true.mp DX8_init_0 e he
  · exact List.all_eq_true.mp DX8_init_1 e he
  · exact List.all_eq_true.mp DX8_init_2 e he
theorem KX8_init : zMK MX8_init := ⟨OX8_init, by decide +kernel, z_in (List.mem_of_getElem? (i := 325) (by decide +kernel)), z_in (List.mem_of_getElem? (i := 28) (by decide +kernel)), by decide +kernel, by decide +kernel⟩
theorem IX8_init : Jvm.Cond.instanceMethod yX8_init ∈ lw_tbl := z_in (List.mem_of_getElem? (i := 324) (by decide +kernel))
def CX8_answer_0 : List zEn := [(0, .iload_n 1, 1, 0, 0), (1, .tableswitch 96 0 8 #[51, 56, 61, 66, 71, 76, 81, 86, 91], 52, 0, 0), (52, .aload_n 0, 53, 0, 0), (53, .getfield 30, 56, 0, 53), (56, .ireturn, 57, 0, 0), (57, .aload_n 0, 58, 0, 0), (58, .getfield 33, 61, 0, 54), (61, .ireturn, 62, 0, 0), (62, .aload_n 0, 63, 0, 0), (63, .getfield 36, 66, 0, 55), (66, .ireturn, 67, 0, 0), (67, .aload_n 0, 68, 0, 0), (68, .getfield 39, 71, 0, 56), (71, .ireturn, 72, 0, 0), (72, .aload_n 0, 73, 0, 0), (73, .getfield 9, 76, 0, 57), (76, .ireturn, 77, 0, 0), (77, .aload_n 0, 78, 0, 0), (78, .getfield 15, 81, 0, 58), (81, .ireturn, 82, 0, 0), (82, .aload_n 0, 83, 0, 0), (83, .getfield 18, 86, 0, 59), (86, .ireturn, 87, 0, 0), (87, .aload_n 0, 88, 0, 0), (88, .getfield 21, 91, 0, 60), (91, .ireturn, 92, 0, 0), (92, .aload_n 0, 93, 0, 0), (93, .getfield 24, 96, 0, 61), (96, .ireturn, 97, 0, 0), (97, .aload_n 0, 98, 0, 0)]
def CX8_answer_1 : List zEn := [(98, .getfield 27, 101, 0, 62), (101, .ireturn, 102, 0, 0)]
def MX8_answer : zMI := (yX8_answer, cX8_answer, 2, (some .int), [(98, CX8_answer_0), (99999, CX8_answer_1)], [])
theorem DX8_answer_0 : CX8_answer_0.all (zchk cX8_answer) = true := by decide +kernel
theorem DX8_answer_1 : CX8_answer_1.all (zchk cX8_answer) = true := by decide +kernel
theorem OX8_answer : zMOK MX8_answer := by
  intro q hq e he
  simp only [MX8_answer, zFt, List.mem_cons, List.not_mem_nil, or_false] at hq
  rcases hq with rfl | rfl
  · exact List.all_eq_true.mp DX8_answer_0 e he
  · exact List.all_eq_true.mp DX8_answer_1 e he
theorem KX8_answer : zMK MX8_answer := ⟨OX8_answer, by decide +kernel, z_in (List.mem_of_getElem? (i := 1008) (by decide +kernel)), z_in (List.mem_of_getElem? (i := 28) (by decide +kernel)), by decide +kernel, by decide +kernel⟩
theorem IX8_answer : Jvm.Cond.instanceMethod yX8_answer ∈ lw_tbl := z_in (List.mem_of_getElem? (i := 1006) (by decide +kernel))
theorem VX8_answer : Jvm.Cond.selects "ShadowWard$Report" yX8_answer yX8_answer ∈ lw_tbl := z_in (List.mem_of_getElem? (i := 1007) (by decide +kernel))
def CX9_init_0 : List zEn := [(0, .aload_n 0, 1, 0, 0), (1, .iconst 2, 2, 2, 0), (2, .iload_n 1, 3, 0, 0), (3, .iload_n 2, 4, 0, 0), (4, .iload_n 3, 5, 0, 0), (5, .iconst 0, 6, 0, 0), (6, .invokespecial 3, 9, 0, 121), (9, .aload_n 0, 10, 0, 0), (10, .iconst 1, 11, 1, 0), (11, .putfield 9, 14, 0, 108), (14, .return_, 15, 0, 0)]
def MX9_init : zMI := (yX9_init, cX9_init, 4, none, [(99999, CX9_init_0)], [])
theorem DX9_init_0 : CX9_init_0.all (zchk cX9_init) = true := by decide +kernel
theorem OX9_init : zMOK MX9_init := by
  intro q hq e he
  simp only [MX9_init, zFt, List.mem_cons, List.not_mem_nil, or_false] at hq
  rcases hq with rfl
  · exact List.all_eq_true.mp DX9_init_0 e he
theorem KX9_init : zMK MX9_init := ⟨OX9_init, by decide +kernel, z_in (List.mem_of_getElem? (i := 719) (by decide +kernel)), z_in (List.mem_of_getElem? (i := 23) (by decide +kernel)), by decide +kernel, by decide +kernel⟩
theorem IX9_init : Jvm.Cond.instanceMethod yX9_init ∈ lw_tbl := z_in (List.mem_of_getElem? (i := 718) (by decide +kernel))
def CX10_init_0 : List zEn := [(0, .aload_n 0, 1, 0, 0), (1, .invokespecial 1, 4, 0, 1), (4, .aload_n 0, 5, 0, 0), (5, .new 7, 8, 0, 1), (8, .dup, 9, 0, 0), (9, .iload_n 1, 10, 0, 0), (10, .invokespecial 9, 13, 0, 2), (13, .putfield 12, 16, 0, 47), (16, .aload_n 0, 17, 0, 0), (17, .new 18, 20, 0, 2), (20, .dup, 21, 0, 0), (21, .aload_n 0, 22, 0, 0), (22, .getfield 12, 25, 0, 47), (25, .invokespecial 20, 28, 0, 7), (28, .putfield 23, 31, 0, 48), (31, .aload_n 0, 32, 0, 0), (32, .new 27, 35, 0, 4), (35, .dup, 36, 0, 0), (36, .aload_n 0, 37, 0, 0), (37, .getfield 12, 40, 0, 47), (40, .invokespecial 29, 43, 0, 13), (43, .putfield 30, 46, 0, 49), (46, .aload_n 0, 47, 0, 0), (47, .new 34, 50, 0, 6), (50, .dup, 51, 0, 0), (51, .aload_n 0, 52, 0, 0), (52, .getfield 12, 55, 0, 47), (55, .iload_n 2, 56, 0, 0), (56, .invokespecial 36, 59, 0, 16), (59, .putfield 39, 62, 0, 50)]
def CX10_init_1 : List zEn := [(62, .aload_n 0, 63, 0, 0), (63, .new 43, 66, 0, 9), (66, .dup, 67, 0, 0), (67, .aload_n 0, 68, 0, 0), (68, .getfield 12, 71, 0, 47), (71, .aload_n 0, 72, 0, 0), (72, .getfield 23, 75, 0, 48), (75, .aload_n 0, 76, 0, 0), (76, .getfield 30, 79, 0, 49), (79, .aload_n 0, 80, 0, 0), (80, .getfield 39, 83, 0, 50), (83, .invokespecial 45, 86, 0, 19), (86, .putfield 48, 89, 0, 51), (89, .aload_n 0, 90, 0, 0), (90, .new 52, 93, 0, 11), (93, .dup, 94, 0, 0), (94, .invokespecial 54, 97, 0, 22), (97, .putfield 55, 100, 0, 52), (100, .return_, 101, 0, 0)]
def MX10_init : zMI := (yX10_init, cX10_init, 3, none, [(62, CX10_init_0), (99999, CX10_init_1)], [])
theorem DX10_init_0 : CX10_init_0.all (zchk cX10_init) = true := by decide +kernel
theorem DX10_init_1 : CX10_init_1.all (zchk cX10_init) = true := by decide +kernel
theorem OX10_init : zMOK MX10_init := by
  intro q hq e he
  simp only [MX10_init, zFt, List.mem_cons, List.not_mem_nil, or_false] at hq
  rcases hq with rfl | rfl
  · exact List.all_eq_true.mp DX10_init_0 e he
  · exact List.all_eq_true.mp DX10_init_1 e he
theorem KX10_init : zMK MX10_init := ⟨OX10_init, by decide +kernel, z_in (List.mem_of_getElem? (i := 33) (by decide +kernel)), z_in (List.mem_of_getElem? (i := 1) (by decide +kernel)), by decide +kernel, by decide +kernel⟩
theorem IX10_init : Jvm.Cond.instanceMethod yX10_init ∈ lw_tbl := z_in (List.mem_of_getElem? (i := 32) (by decide +kernel))
def CX10_global_0 : List zEn := [(0, .iload_n 1, 1, 0, 0), (1, .iconst 1, 2, 1, 0), (2, .if_icmp .lt 14, 5, 0, 16), (5, .iload_n 1, 6, 0, 0), (6, .sipush 512, 9, 512, 0), (9, .if_icmp .gt 7, 12, 0, 16), (12, .iconst 1, 13, 1, 0), (13, .goto 4, 16, 0, 17), (16, .iconst 0, 17, 0, 0), (17, .invokestatic 59, 20, 0, 71), (20, .aload_n 0, 21, 0, 0), (21, .getfield 23, 24, 0, 48), (24, .iload_n 1, 25, 0, 0), (25, .invokevirtual 63, 28, 0, 105), (28, .ireturn, 29, 0, 0)]
def MX10_global : zMI := (yX10_global, cX10_global, 2, (some .int), [(99999, CX10_global_0)], [])
theorem DX10_global_0 : CX10_global_0.all (zchk cX10_global) = true := by decide +kernel
theorem OX10_global : zMOK MX10_global := by
  intro q hq e he
  simp only [MX10_global, zFt, List.mem_cons, List.not_mem_nil, or_false] at hq
  rcases hq with rfl
  · exact List.all_eq_true.mp DX10_global_0 e he
theorem KX10_global : zMK MX10_global := ⟨OX10_global, by decide +kernel, z_in (List.mem_of_getElem? (i := 599) (by decide +kernel)), z_in (List.mem_of_getElem? (i := 1) (by decide +kernel)), by decide +kernel, by decide +kernel⟩
theorem IX10_global : Jvm.Cond.instanceMethod yX10_global ∈ lw_tbl := z_in (List.mem_of_getElem? (i := 597) (by decide +kernel))
theorem VX10_global : Jvm.Cond.selects "ShadowWard" yX10_global yX10_global ∈ lw_tbl := z_in (List.mem_of_getElem? (i := 598) (by decide +kernel))
def CX10_enter_0 : List zEn := [(0, .iload_n 1, 1, 0, 0), (1, .invokestatic 67, 4, 0, 113), (4, .ifCond .eq 29, 7, 0, 33), (7, .iload_n 2, 8, 0, 0), (8, .invokestatic 67, 11, 0, 113), (11, .ifCond .eq 22, 14, 0, 33), (14, .iload_n 3, 15, 0, 0), (15, .invokestatic 67, 18, 0, 113), (18, .ifCond .eq 15, 21, 0, 33), (21, .iload 4, 23, 0, 0), (23, .invokestatic 67, 26, 0, 113), (26, .ifCond .eq 7, 29, 0, 33), (29, .iconst 1, 30, 1, 0), (30, .goto 4, 33, 0, 34), (33, .iconst 0, 34, 0, 0), (34, .invokestatic 59, 37, 0, 71), (37, .iload_n 1, 38, 0, 0), (38, .iload_n 2, 39, 0, 0), (39, .ior, 40, 0, 0), (40, .iload_n 3, 41, 0, 0), (41, .ior, 42, 0, 0), (42, .iload 4, 44, 0, 0), (44, .ior, 45, 0, 0), (45, .ifCond .eq 7, 48, 0, 52), (48, .iconst 1, 49, 1, 0), (49, .goto 4, 52, 0, 53), (52, .iconst 0, 53, 0, 0), (53, .invokestatic 59, 56, 0, 71), (56, .aload_n 0, 57, 0, 0), (57, .getfield 30, 60, 0, 49)]
def CX10_enter_1 : List zEn := [(60, .iload_n 1, 61, 0, 0), (61, .iload_n 2, 62, 0, 0), (62, .iload_n 3, 63, 0, 0), (63, .iload 4, 65, 0, 0), (65, .invokevirtual 71, 68, 0, 114), (68, .ireturn, 69, 0, 0)]
def MX10_enter : zMI := (yX10_enter, cX10_enter, 5, (some .int), [(60, CX10_enter_0), (99999, CX10_enter_1)], [])
theorem DX10_enter_0 : CX10_enter_0.all (zchk cX10_enter) = true := by decide +kernel
theorem DX10_enter_1 : CX10_enter_1.all (zchk cX10_enter) = true := by decide +kernel
theorem OX10_enter : zMOK MX10_enter := by
  intro q hq e he
  simp only [MX10_enter, zFt, List.mem_cons, List.not_mem_nil, or_false] at hq
  rcases hq with rfl | rfl
  · exact List.all_eq_true.mp DX10_enter_0 e he
  · exact List.all_eq_true.mp DX10_enter_1 e he
theorem KX10_enter : zMK MX10_enter := ⟨OX10_enter, by decide +kernel, z_in (List.mem_of_getElem? (i := 677) (by decide +kernel)), z_in (List.mem_of_getElem? (i := 1) (by decide +kernel)), by decide +kernel, by decide +kernel⟩
theorem IX10_enter : Jvm.Cond.instanceMethod yX10_enter ∈ lw_tbl := z_in (List.mem_of_getElem? (i := 675) (by decide +kernel))
theorem VX10_enter : Jvm.Cond.selects "ShadowWard" yX10_enter yX10_enter ∈ lw_tbl := z_in (List.mem_of_getElem? (i := 676) (by decide +kernel))
def CX10_leave_0 : List zEn := [(0, .aload_n 0, 1, 0, 0), (1, .getfield 30, 4, 0, 49), (4, .invokevirtual 75, 7, 0, 128), (7, .ifCond .ne 13, 10, 0, 20), (10, .new 79, 13, 0, 28), (13, .dup, 14, 0, 0), (14, .ldc 81, 16, 0, 0), (16, .invokespecial 83, 19, 0, 129), (19, .athrow, 20, 0, 0), (20, .aload_n 0, 21, 0, 0), (21, .getfield 30, 24, 0, 49), (24, .invokevirtual 86, 27, 0, 131), (27, .aload_n 0, 28, 0, 0), (28, .getfield 30, 31, 0, 49), (31, .invokevirtual 75, 34, 0, 128), (34, .ireturn, 35, 0, 0)]
def MX10_leave : zMI := (yX10_leave, cX10_leave, 1, (some .int), [(99999, CX10_leave_0)], [])
theorem DX10_leave_0 : CX10_leave_0.all (zchk cX10_leave) = true := by decide +kernel
theorem OX10_leave : zMOK MX10_leave := by
  intro q hq e he
  simp only [MX10_leave, zFt, List.mem_cons, List.not_mem_nil, or_false] at hq
  rcases hq with rfl
  · exact List.all_eq_true.mp DX10_leave_0 e he
theorem KX10_leave : zMK MX10_leave := ⟨OX10_leave, by decide +kernel, z_in (List.mem_of_getElem? (i := 748) (by decide +kernel)), z_in (List.mem_of_getElem? (i := 1) (by decide +kernel)), by decide +kernel, by decide +kernel⟩
theorem IX10_leave : Jvm.Cond.instanceMethod yX10_leave ∈ lw_tbl := z_in (List.mem_of_getElem? (i := 746) (by decide +kernel))
theorem VX10_leave : Jvm.Cond.selects "ShadowWard" yX10_leave yX10_leave ∈ lw_tbl := z_in (List.mem_of_getElem? (i := 747) (by decide +kernel))
def CX10_scope_0 : List zEn := [(0, .aload_n 0, 1, 0, 0), (1, .getfield 30, 4, 0, 49), (4, .aload_n 0, 5, 0, 0), (5, .iload_n 1, 6, 0, 0), (6, .iload_n 2, 7, 0, 0), (7, .invokevirtual 89, 10, 0, 137), (10, .iload_n 3, 11, 0, 0), (11, .invokevirtual 93, 14, 0, 142), (14, .ireturn, 15, 0, 0)]
def MX10_scope : zMI := (yX10_scope, cX10_scope, 4, (some .boolean), [(99999, CX10_scope_0)], [])
theorem DX10_scope_0 : CX10_scope_0.all (zchk cX10_scope) = true := by decide +kernel
theorem OX10_scope : zMOK MX10_scope := by
  intro q hq e he
  simp only [MX10_scope, zFt, List.mem_cons, List.not_mem_nil, or_false] at hq
  rcases hq with rfl
  · exact List.all_eq_true.mp DX10_scope_0 e he
theorem KX10_scope : zMK MX10_scope := ⟨OX10_scope, by decide +kernel, z_in (List.mem_of_getElem? (i := 786) (by decide +kernel)), z_in (List.mem_of_getElem? (i := 1) (by decide +kernel)), by decide +kernel, by decide +kernel⟩
theorem IX10_scope : Jvm.Cond.instanceMethod yX10_scope ∈ lw_tbl := z_in (List.mem_of_getElem? (i := 784) (by decide +kernel))
theorem VX10_scope : Jvm.Cond.selects "ShadowWard" yX10_scope yX10_scope ∈ lw_tbl := z_in (List.mem_of_getElem? (i := 785) (by decide +kernel))
def CX10_variable_0 : List zEn := [(0, .aload_n 0, 1, 0, 0), (1, .iload_n 1, 2, 0, 0), (2, .iload_n 2, 3, 0, 0), (3, .invokevirtual 89, 6, 0, 137), (6, .getfield 97, 9, 0, 80), (9, .ireturn, 10, 0, 0)]
def MX10_variable : zMI := (yX10_variable, cX10_variable, 3, (some .int), [(99999, CX10_variable_0)], [])
theorem DX10_variable_0 : CX10_variable_0.all (zchk cX10_variable) = true := by decide +kernel
theorem OX10_variable : zMOK MX10_variable := by
  intro q hq e he
  simp only [MX10_variable, zFt, List.mem_cons, List.not_mem_nil, or_false] at hq
  rcases hq with rfl
  · exact List.all_eq_true.mp DX10_variable_0 e he
theorem KX10_variable : zMK MX10_variable := ⟨OX10_variable, by decide +kernel, z_in (List.mem_of_getElem? (i := 823) (by decide +kernel)), z_in (List.mem_of_getElem? (i := 1) (by decide +kernel)), by decide +kernel, by decide +kernel⟩
theorem IX10_variable : Jvm.Cond.instanceMethod yX10_variable ∈ lw_tbl := z_in (List.mem_of_getElem? (i := 821) (by decide +kernel))
theorem VX10_variable : Jvm.Cond.selects "ShadowWard" yX10_variable yX10_variable ∈ lw_tbl := z_in (List.mem_of_getElem? (i := 822) (by decide +kernel))
def CX10_allocate_0 : List zEn := [(0, .iload_n 1, 1, 0, 0), (1, .invokestatic 103, 4, 0, 147), (4, .invokestatic 59, 7, 0, 71), (7, .aload_n 0, 8, 0, 0), (8, .iload_n 2, 9, 0, 0), (9, .invokevirtual 106, 12, 0, 70), (12, .invokestatic 59, 15, 0, 71), (15, .aload_n 0, 16, 0, 0), (16, .getfield 39, 19, 0, 50), (19, .iload_n 1, 20, 0, 0), (20, .iload_n 2, 21, 0, 0), (21, .iload_n 3, 22, 0, 0), (22, .invokevirtual 109, 25, 0, 148), (25, .astore 4, 27, 0, 0), (27, .aload 4, 29, 0, 0), (29, .ifnonnull 7, 32, 0, 36), (32, .iconst (-1), 33, (-1), 0), (33, .goto 8, 36, 0, 41), (36, .aload 4, 38, 0, 0), (38, .getfield 113, 41, 0, 83), (41, .ireturn, 42, 0, 0)]
def MX10_allocate : zMI := (yX10_allocate, cX10_allocate, 5, (some .int), [(99999, CX10_allocate_0)], [])
theorem DX10_allocate_0 : CX10_allocate_0.all (zchk cX10_allocate) = true := by decide +kernel
theorem OX10_allocate : zMOK MX10_allocate := by
  intro q hq e he
  simp only [MX10_allocate, zFt, List.mem_cons, List.not_mem_nil, or_false] at hq
  rcases hq with rfl
  · exact List.all_eq_true.mp DX10_allocate_0 e he
theorem KX10_allocate : zMK MX10_allocate := ⟨OX10_allocate, by decide +kernel, z_in (List.mem_of_getElem? (i := 830) (by decide +kernel)), z_in (List.mem_of_getElem? (i := 1) (by decide +kernel)), by decide +kernel, by decide +kernel⟩
theorem IX10_allocate : Jvm.Cond.instanceMethod yX10_allocate ∈ lw_tbl := z_in (List.mem_of_getElem? (i := 828) (by decide +kernel))
theorem VX10_allocate : Jvm.Cond.selects "ShadowWard" yX10_allocate yX10_allocate ∈ lw_tbl := z_in (List.mem_of_getElem? (i := 829) (by decide +kernel))
def CX10_free_0 : List zEn := [(0, .iload_n 1, 1, 0, 0), (1, .invokestatic 103, 4, 0, 147), (4, .invokestatic 59, 7, 0, 71), (7, .iload_n 2, 8, 0, 0), (8, .iconst (-1), 9, (-1), 0), (9, .if_icmp .ne 5, 12, 0, 14), (12, .iconst 0, 13, 0, 0), (13, .ireturn, 14, 0, 0), (14, .aload_n 0, 15, 0, 0), (15, .iload_n 1, 16, 0, 0), (16, .iload_n 2, 17, 0, 0), (17, .invokevirtual 116, 20, 0, 168), (20, .astore 4, 22, 0, 0), (22, .aload 4, 24, 0, 0), (24, .ifnonnull 5, 27, 0, 29), (27, .iconst 0, 28, 0, 0), (28, .ireturn, 29, 0, 0), (29, .aload_n 0, 30, 0, 0), (30, .getfield 39, 33, 0, 50), (33, .aload 4, 35, 0, 0), (35, .iload_n 3, 36, 0, 0), (36, .invokevirtual 120, 39, 0, 170), (39, .iconst 1, 40, 1, 0), (40, .ireturn, 41, 0, 0)]
def MX10_free : zMI := (yX10_free, cX10_free, 5, (some .boolean), [(99999, CX10_free_0)], [])
theorem DX10_free_0 : CX10_free_0.all (zchk cX10_free) = true := by decide +kernel
theorem OX10_free : zMOK MX10_free := by
  intro q hq e he
  simp only [MX10_free, zFt, List.mem_cons, List.not_mem_nil, or_false] at hq
  rcases hq with rfl
  · exact List.all_eq_true.mp DX10_free_0 e he
theorem KX10_free : zMK MX10_free := ⟨OX10_free, by decide +kernel, z_in (List.mem_of_getElem? (i := 919) (by decide +kernel)), z_in (List.mem_of_getElem? (i := 1) (by decide +kernel)), by decide +kernel, by decide +kernel⟩
theorem IX10_free : Jvm.Cond.instanceMethod yX10_free ∈ lw_tbl := z_in (List.mem_of_getElem? (i := 917) (by decide +kernel))
theorem VX10_free : Jvm.Cond.selects "ShadowWard" yX10_free yX10_free ∈ lw_tbl := z_in (List.mem_of_getElem? (i := 918) (by decide +kernel))
def CX10_resize_0 : List zEn := [(0, .aload_n 0, 1, 0, 0), (1, .iload_n 2, 2, 0, 0), (2, .invokevirtual 106, 5, 0, 70), (5, .invokestatic 59, 8, 0, 71), (8, .iload_n 1, 9, 0, 0), (9, .iconst (-1), 10, (-1), 0), (10, .if_icmp .ne 11, 13, 0, 21), (13, .aload_n 0, 14, 0, 0), (14, .iconst 0, 15, 0, 0), (15, .iload_n 2, 16, 0, 0), (16, .iload_n 3, 17, 0, 0), (17, .invokevirtual 124, 20, 0, 173), (20, .ireturn, 21, 0, 0), (21, .aload_n 0, 22, 0, 0), (22, .iconst 0, 23, 0, 0), (23, .iload_n 1, 24, 0, 0), (24, .invokevirtual 116, 27, 0, 168), (27, .astore 4, 29, 0, 0), (29, .aload 4, 31, 0, 0), (31, .ifnonnull 5, 34, 0, 36), (34, .iconst (-1), 35, (-1), 0), (35, .ireturn, 36, 0, 0), (36, .aload_n 0, 37, 0, 0), (37, .getfield 39, 40, 0, 50), (40, .iconst 0, 41, 0, 0), (41, .iload_n 2, 42, 0, 0), (42, .iload_n 3, 43, 0, 0), (43, .invokevirtual 109, 46, 0, 148), (46, .astore 5, 48, 0, 0), (48, .aload 5, 50, 0, 0)]
def CX10_resize_1 : List zEn := [(50, .ifnonnull 5, 53, 0, 55), (53, .iconst (-1), 54, (-1), 0), (54, .ireturn, 55, 0, 0), (55, .aload_n 0, 56, 0, 0), (56, .getfield 12, 59, 0, 47), (59, .aload 5, 61, 0, 0), (61, .getfield 113, 64, 0, 83), (64, .aload 4, 66, 0, 0), (66, .getfield 113, 69, 0, 83), (69, .aload 5, 71, 0, 0), (71, .getfield 128, 74, 0, 89), (74, .aload 4, 76, 0, 0), (76, .getfield 128, 79, 0, 89), (79, .invokestatic 131, 82, 0, 174), (82, .invokevirtual 137, 85, 0, 80), (85, .aload_n 0, 86, 0, 0), (86, .getfield 39, 89, 0, 50), (89, .aload 4, 91, 0, 0), (91, .iload_n 3, 92, 0, 0), (92, .invokevirtual 120, 95, 0, 170), (95, .aload 5, 97, 0, 0), (97, .getfield 113, 100, 0, 83), (100, .ireturn, 101, 0, 0)]
def MX10_resize : zMI := (yX10_resize, cX10_resize, 6, (some .int), [(50, CX10_resize_0), (99999, CX10_resize_1)], [])
theorem DX10_resize_0 : CX10_resize_0.all (zchk cX10_resize) = true := by decide +kernel
theorem DX10_resize_1 : CX10_resize_1.all (zchk cX10_resize) = true := by decide +kernel
theorem OX10_resize : zMOK MX10_resize := by
  intro q hq e he
  simp only [MX10_resize, zFt, List.mem_cons, List.not_mem_nil, or_false] at hq
  rcases hq with rfl | rfl
  · exact List.all_eq_true.mp DX10_resize_0 e he
  · exact List.all_eq_true.mp DX10_resize_1 e he
theorem KX10_resize : zMK MX10_resize := ⟨OX10_resize, by decide +kernel, z_in (List.mem_of_getElem? (i := 938) (by decide +kernel)), z_in (List.mem_of_getElem? (i := 1) (by decide +kernel)), by decide +kernel, by decide +kernel⟩
theorem IX10_resize : Jvm.Cond.instanceMethod yX10_resize ∈ lw_tbl := z_in (List.mem_of_getElem? (i := 936) (by decide +kernel))
theorem VX10_resize : Jvm.Cond.selects "ShadowWard" yX10_resize yX10_resize ∈ lw_tbl := z_in (List.mem_of_getElem? (i := 937) (by decide +kernel))
def CX10_load_0 : List zEn := [(0, .iload_n 2, 1, 0, 0), (1, .iconst 1, 2, 1, 0), (2, .if_icmp .lt 13, 5, 0, 15), (5, .iload_n 2, 6, 0, 0), (6, .bipush 8, 8, 8, 0), (8, .if_icmp .gt 7, 11, 0, 15), (11, .iconst 1, 12, 1, 0), (12, .goto 4, 15, 0, 16), (15, .iconst 0, 16, 0, 0), (16, .invokestatic 59, 19, 0, 71), (19, .aload_n 0, 20, 0, 0), (20, .iload_n 1, 21, 0, 0), (21, .iload_n 2, 22, 0, 0), (22, .iconst 0, 23, 0, 0), (23, .invokevirtual 141, 26, 0, 24), (26, .ifCond .eq 15, 29, 0, 41), (29, .aload_n 0, 30, 0, 0), (30, .getfield 12, 33, 0, 47), (33, .iload_n 1, 34, 0, 0), (34, .iload_n 2, 35, 0, 0), (35, .invokevirtual 145, 38, 0, 177), (38, .goto 4, 41, 0, 42), (41, .lconst 0, 42, 0, 0), (42, .lreturn, 43, 0, 0)]
def MX10_load : zMI := (yX10_load, cX10_load, 3, (some .long), [(99999, CX10_load_0)], [])
theorem DX10_load_0 : CX10_load_0.all (zchk cX10_load) = true := by decide +kernel
theorem OX10_load : zMOK MX10_load := by
  intro q hq e he
  simp only [MX10_load, zFt, List.mem_cons, List.not_mem_nil, or_false] at hq
  rcases hq with rfl
  · exact List.all_eq_true.mp DX10_load_0 e he
theorem KX10_load : zMK MX10_load := ⟨OX10_load, by decide +kernel, z_in (List.mem_of_getElem? (i := 947) (by decide +kernel)), z_in (List.mem_of_getElem? (i := 1) (by decide +kernel)), by decide +kernel, by decide +kernel⟩
theorem IX10_load : Jvm.Cond.instanceMethod yX10_load ∈ lw_tbl := z_in (List.mem_of_getElem? (i := 945) (by decide +kernel))
theorem VX10_load : Jvm.Cond.selects "ShadowWard" yX10_load yX10_load ∈ lw_tbl := z_in (List.mem_of_getElem? (i := 946) (by decide +kernel))
def CX10_store_0 : List zEn := [(0, .iload_n 2, 1, 0, 0), (1, .iconst 1, 2, 1, 0), (2, .if_icmp .lt 13, 5, 0, 15), (5, .iload_n 2, 6, 0, 0), (6, .bipush 8, 8, 8, 0), (8, .if_icmp .gt 7, 11, 0, 15), (11, .iconst 1, 12, 1, 0), (12, .goto 4, 15, 0, 16), (15, .iconst 0, 16, 0, 0), (16, .invokestatic 59, 19, 0, 71), (19, .aload_n 0, 20, 0, 0), (20, .iload_n 1, 21, 0, 0), (21, .iload_n 2, 22, 0, 0), (22, .iconst 1, 23, 1, 0), (23, .invokevirtual 141, 26, 0, 24), (26, .ifCond .ne 5, 29, 0, 31), (29, .iconst 0, 30, 0, 0), (30, .ireturn, 31, 0, 0), (31, .aload_n 0, 32, 0, 0), (32, .getfield 12, 35, 0, 47), (35, .iload_n 1, 36, 0, 0), (36, .iload_n 2, 37, 0, 0), (37, .lload_n 3, 38, 0, 0), (38, .invokevirtual 149, 41, 0, 180), (41, .iconst 1, 42, 1, 0), (42, .ireturn, 43, 0, 0)]
def MX10_store : zMI := (yX10_store, cX10_store, 5, (some .boolean), [(99999, CX10_store_0)], [])
theorem DX10_store_0 : CX10_store_0.all (zchk cX10_store) = true := by decide +kernel
theorem OX10_store : zMOK MX10_store := by
  intro q hq e he
  simp only [MX10_store, zFt, List.mem_cons, List.not_mem_nil, or_false] at hq
  rcases hq with rfl
  · exact List.all_eq_true.mp DX10_store_0 e he
theorem KX10_store : zMK MX10_store := ⟨OX10_store, by decide +kernel, z_in (List.mem_of_getElem? (i := 955) (by decide +kernel)), z_in (List.mem_of_getElem? (i := 1) (by decide +kernel)), by decide +kernel, by decide +kernel⟩
theorem IX10_store : Jvm.Cond.instanceMethod yX10_store ∈ lw_tbl := z_in (List.mem_of_getElem? (i := 953) (by decide +kernel))
theorem VX10_store : Jvm.Cond.selects "ShadowWard" yX10_store yX10_store ∈ lw_tbl := z_in (List.mem_of_getElem? (i := 954) (by decide +kernel))
def CX10_fill_0 : List zEn := [(0, .aload_n 0, 1, 0, 0), (1, .iload_n 2, 2, 0, 0), (2, .invokevirtual 106, 5, 0, 70), (5, .invokestatic 59, 8, 0, 71), (8, .aload_n 0, 9, 0, 0), (9, .iload_n 1, 10, 0, 0), (10, .iload_n 2, 11, 0, 0), (11, .iconst 1, 12, 1, 0), (12, .invokevirtual 141, 15, 0, 24), (15, .ifCond .ne 5, 18, 0, 20), (18, .iconst 0, 19, 0, 0), (19, .ireturn, 20, 0, 0), (20, .aload_n 0, 21, 0, 0), (21, .getfield 12, 24, 0, 47), (24, .iload_n 1, 25, 0, 0), (25, .iload_n 2, 26, 0, 0), (26, .iload_n 3, 27, 0, 0), (27, .invokevirtual 153, 30, 0, 183), (30, .iconst 1, 31, 1, 0), (31, .ireturn, 32, 0, 0)]
def MX10_fill : zMI := (yX10_fill, cX10_fill, 4, (some .boolean), [(99999, CX10_fill_0)], [])
theorem DX10_fill_0 : CX10_fill_0.all (zchk cX10_fill) = true := by decide +kernel
theorem OX10_fill : zMOK MX10_fill := by
  intro q hq e he
  simp only [MX10_fill, zFt, List.mem_cons, List.not_mem_nil, or_false] at hq
  rcases hq with rfl
  · exact List.all_eq_true.mp DX10_fill_0 e he
theorem KX10_fill : zMK MX10_fill := ⟨OX10_fill, by decide +kernel, z_in (List.mem_of_getElem? (i := 966) (by decide +kernel)), z_in (List.mem_of_getElem? (i := 1) (by decide +kernel)), by decide +kernel, by decide +kernel⟩
theorem IX10_fill : Jvm.Cond.instanceMethod yX10_fill ∈ lw_tbl := z_in (List.mem_of_getElem? (i := 964) (by decide +kernel))
theorem VX10_fill : Jvm.Cond.selects "ShadowWard" yX10_fill yX10_fill ∈ lw_tbl := z_in (List.mem_of_getElem? (i := 965) (by decide +kernel))
def CX10_copy_0 : List zEn := [(0, .aload_n 0, 1, 0, 0), (1, .iload_n 3, 2, 0, 0), (2, .invokevirtual 106, 5, 0, 70), (5, .invokestatic 59, 8, 0, 71), (8, .iload_n 1, 9, 0, 0), (9, .i2l, 10, 0, 0), (10, .iload_n 2, 11, 0, 0), (11, .i2l, 12, 0, 0), (12, .lsub, 13, 0, 0), (13, .invokestatic 156, 16, 0, 79), (16, .iload_n 3, 17, 0, 0), (17, .i2l, 18, 0, 0), (18, .lcmp, 19, 0, 0), (19, .ifCond .ge 7, 22, 0, 26), (22, .iconst 1, 23, 1, 0), (23, .goto 4, 26, 0, 27), (26, .iconst 0, 27, 0, 0), (27, .istore 5, 29, 0, 0), (29, .iload 5, 31, 0, 0), (31, .ifCond .eq 19, 34, 0, 50), (34, .iload 4, 36, 0, 0), (36, .ifCond .ne 14, 39, 0, 50), (39, .aload_n 0, 40, 0, 0), (40, .bipush 13, 42, 13, 0), (42, .iload_n 1, 43, 0, 0), (43, .iload_n 3, 44, 0, 0), (44, .iconst 1, 45, 1, 0), (45, .invokevirtual 160, 48, 0, 31), (48, .iconst 0, 49, 0, 0), (49, .ireturn, 50, 0, 0)]
def CX10_copy_1 : List zEn := [(50, .aload_n 0, 51, 0, 0), (51, .iload_n 2, 52, 0, 0), (52, .iload_n 3, 53, 0, 0), (53, .iconst 0, 54, 0, 0), (54, .invokevirtual 141, 57, 0, 24), (57, .ifCond .eq 13, 60, 0, 70), (60, .aload_n 0, 61, 0, 0), (61, .iload_n 1, 62, 0, 0), (62, .iload_n 3, 63, 0, 0), (63, .iconst 1, 64, 1, 0), (64, .invokevirtual 141, 67, 0, 24), (67, .ifCond .ne 5, 70, 0, 72), (70, .iconst 0, 71, 0, 0), (71, .ireturn, 72, 0, 0), (72, .aload_n 0, 73, 0, 0), (73, .getfield 12, 76, 0, 47), (76, .iload_n 1, 77, 0, 0), (77, .iload_n 2, 78, 0, 0), (78, .iload_n 3, 79, 0, 0), (79, .invokevirtual 137, 82, 0, 80), (82, .iconst 1, 83, 1, 0), (83, .ireturn, 84, 0, 0)]
def MX10_copy : zMI := (yX10_copy, cX10_copy, 6, (some .boolean), [(50, CX10_copy_0), (99999, CX10_copy_1)], [])
theorem DX10_copy_0 : CX10_copy_0.all (zchk cX10_copy) = true := by decide +kernel
theorem DX10_copy_1 : CX10_copy_1.all (zchk cX10_copy) = true := by decide +kernel
theorem OX10_copy : zMOK MX10_copy := by
  intro q hq e he
  simp only [MX10_copy, zFt, List.mem_cons, List.not_mem_nil, or_false] at hq
  rcases hq with rfl | rfl
  · exact List.all_eq_true.mp DX10_copy_0 e he
  · exact List.all_eq_true.mp DX10_copy_1 e he
theorem KX10_copy : zMK MX10_copy := ⟨OX10_copy, by decide +kernel, z_in (List.mem_of_getElem? (i := 437) (by decide +kernel)), z_in (List.mem_of_getElem? (i := 1) (by decide +kernel)), by decide +kernel, by decide +kernel⟩
theorem IX10_copy : Jvm.Cond.instanceMethod yX10_copy ∈ lw_tbl := z_in (List.mem_of_getElem? (i := 435) (by decide +kernel))
theorem VX10_copy : Jvm.Cond.selects "ShadowWard" yX10_copy yX10_copy ∈ lw_tbl := z_in (List.mem_of_getElem? (i := 436) (by decide +kernel))
def CX10_length_0 : List zEn := [(0, .iconst 0, 1, 0, 0), (1, .istore_n 2, 2, 0, 0), (2, .iload_n 2, 3, 0, 0), (3, .aload_n 0, 4, 0, 0), (4, .getfield 12, 7, 0, 47), (7, .getfield 164, 10, 0, 2), (10, .if_icmp .gt 38, 13, 0, 48), (13, .aload_n 0, 14, 0, 0), (14, .iload_n 1, 15, 0, 0), (15, .iload_n 2, 16, 0, 0), (16, .iadd, 17, 0, 0), (17, .iconst 1, 18, 1, 0), (18, .iconst 0, 19, 0, 0), (19, .invokevirtual 141, 22, 0, 24), (22, .ifCond .ne 5, 25, 0, 27), (25, .iconst (-1), 26, (-1), 0), (26, .ireturn, 27, 0, 0), (27, .aload_n 0, 28, 0, 0), (28, .getfield 12, 31, 0, 47), (31, .iload_n 1, 32, 0, 0), (32, .iload_n 2, 33, 0, 0), (33, .iadd, 34, 0, 0), (34, .invokevirtual 165, 37, 0, 66), (37, .ifCond .ne 5, 40, 0, 42), (40, .iload_n 2, 41, 0, 0), (41, .ireturn, 42, 0, 0), (42, .iinc 2 1, 45, 1, 0), (45, .goto (-43), 48, 0, 2), (48, .iconst (-1), 49, (-1), 0), (49, .ireturn, 50, 0, 0)]
def MX10_length : zMI := (yX10_length, cX10_length, 3, (some .int), [(99999, CX10_length_0)], [])
theorem DX10_length_0 : CX10_length_0.all (zchk cX10_length) = true := by decide +kernel
theorem OX10_length : zMOK MX10_length := by
  intro q hq e he
  simp only [MX10_length, zFt, List.mem_cons, List.not_mem_nil, or_false] at hq
  rcases hq with rfl
  · exact List.all_eq_true.mp DX10_length_0 e he
theorem KX10_length : zMK MX10_length := ⟨OX10_length, by decide +kernel, z_in (List.mem_of_getElem? (i := 230) (by decide +kernel)), z_in (List.mem_of_getElem? (i := 1) (by decide +kernel)), by decide +kernel, by decide +kernel⟩
theorem IX10_length : Jvm.Cond.instanceMethod yX10_length ∈ lw_tbl := z_in (List.mem_of_getElem? (i := 228) (by decide +kernel))
theorem VX10_length : Jvm.Cond.selects "ShadowWard" yX10_length yX10_length ∈ lw_tbl := z_in (List.mem_of_getElem? (i := 229) (by decide +kernel))
def CX10_text_0 : List zEn := [(0, .aload_n 0, 1, 0, 0), (1, .iload_n 2, 2, 0, 0), (2, .invokevirtual 168, 5, 0, 68), (5, .istore_n 3, 6, 0, 0), (6, .iload_n 3, 7, 0, 0), (7, .iconst (-1), 8, (-1), 0), (8, .if_icmp .ne 5, 11, 0, 13), (11, .iconst (-1), 12, (-1), 0), (12, .ireturn, 13, 0, 0), (13, .aload_n 0, 14, 0, 0), (14, .iload_n 1, 15, 0, 0), (15, .iload_n 2, 16, 0, 0), (16, .iload_n 3, 17, 0, 0), (17, .iconst 1, 18, 1, 0), (18, .iadd, 19, 0, 0), (19, .iconst 0, 20, 0, 0), (20, .invokevirtual 171, 23, 0, 69), (23, .ifCond .eq 7, 26, 0, 30), (26, .iload_n 3, 27, 0, 0), (27, .goto 4, 30, 0, 31), (30, .iconst (-1), 31, (-1), 0), (31, .ireturn, 32, 0, 0)]
def MX10_text : zMI := (yX10_text, cX10_text, 4, (some .int), [(99999, CX10_text_0)], [])
theorem DX10_text_0 : CX10_text_0.all (zchk cX10_text) = true := by decide +kernel
theorem OX10_text : zMOK MX10_text := by
  intro q hq e he
  simp only [MX10_text, zFt, List.mem_cons, List.not_mem_nil, or_false] at hq
  rcases hq with rfl
  · exact List.all_eq_true.mp DX10_text_0 e he
theorem KX10_text : zMK MX10_text := ⟨OX10_text, by decide +kernel, z_in (List.mem_of_getElem? (i := 432) (by decide +kernel)), z_in (List.mem_of_getElem? (i := 1) (by decide +kernel)), by decide +kernel, by decide +kernel⟩
theorem IX10_text : Jvm.Cond.instanceMethod yX10_text ∈ lw_tbl := z_in (List.mem_of_getElem? (i := 430) (by decide +kernel))
theorem VX10_text : Jvm.Cond.selects "ShadowWard" yX10_text yX10_text ∈ lw_tbl := z_in (List.mem_of_getElem? (i := 431) (by decide +kernel))
def CX10_compare_0 : List zEn := [(0, .aload_n 0, 1, 0, 0), (1, .iload_n 3, 2, 0, 0), (2, .invokevirtual 106, 5, 0, 70), (5, .invokestatic 59, 8, 0, 71), (8, .iconst 0, 9, 0, 0), (9, .istore 4, 11, 0, 0), (11, .iload 4, 13, 0, 0), (13, .iload_n 3, 14, 0, 0), (14, .if_icmp .ge 80, 17, 0, 94), (17, .aload_n 0, 18, 0, 0), (18, .iload_n 1, 19, 0, 0), (19, .iload 4, 21, 0, 0), (21, .iadd, 22, 0, 0), (22, .iconst 1, 23, 1, 0), (23, .iconst 0, 24, 0, 0), (24, .invokevirtual 141, 27, 0, 24), (27, .ifCond .eq 16, 30, 0, 43), (30, .aload_n 0, 31, 0, 0), (31, .iload_n 2, 32, 0, 0), (32, .iload 4, 34, 0, 0), (34, .iadd, 35, 0, 0), (35, .iconst 1, 36, 1, 0), (36, .iconst 0, 37, 0, 0), (37, .invokevirtual 141, 40, 0, 24), (40, .ifCond .ne 5, 43, 0, 45), (43, .iconst 2, 44, 2, 0), (44, .ireturn, 45, 0, 0), (45, .aload_n 0, 46, 0, 0), (46, .getfield 12, 49, 0, 47), (49, .iload_n 1, 50, 0, 0)]
def CX10_compare_1 : List zEn := [(50, .iload 4, 52, 0, 0), (52, .iadd, 53, 0, 0), (53, .invokevirtual 165, 56, 0, 66), (56, .aload_n 0, 57, 0, 0), (57, .getfield 12, 60, 0, 47), (60, .iload_n 2, 61, 0, 0), (61, .iload 4, 63, 0, 0), (63, .iadd, 64, 0, 0), (64, .invokevirtual 165, 67, 0, 66), (67, .invokestatic 175, 70, 0, 41), (70, .istore 5, 72, 0, 0), (72, .iload 5, 74, 0, 0), (74, .ifCond .eq 14, 77, 0, 88), (77, .iload 5, 79, 0, 0), (79, .ifCond .ge 7, 82, 0, 86), (82, .iconst (-1), 83, (-1), 0), (83, .goto 4, 86, 0, 87), (86, .iconst 1, 87, 1, 0), (87, .ireturn, 88, 0, 0), (88, .iinc 4 1, 91, 1, 0), (91, .goto (-80), 94, 0, 11), (94, .iconst 0, 95, 0, 0), (95, .ireturn, 96, 0, 0)]
def MX10_compare : zMI := (yX10_compare, cX10_compare, 6, (some .int), [(50, CX10_compare_0), (99999, CX10_compare_1)], [])
theorem DX10_compare_0 : CX10_compare_0.all (zchk cX10_compare) = true := by decide +kernel
theorem DX10_compare_1 : CX10_compare_1.all (zchk cX10_compare) = true := by decide +kernel
theorem OX10_compare : zMOK MX10_compare := by
  intro q hq e he
  simp only [MX10_compare, zFt, List.mem_cons, List.not_mem_nil, or_false] at hq
  rcases hq with rfl | rfl
  · exact List.all_eq_true.mp DX10_compare_0 e he
  · exact List.all_eq_true.mp DX10_compare_1 e he
theorem KX10_compare : zMK MX10_compare := ⟨OX10_compare, by decide +kernel, z_in (List.mem_of_getElem? (i := 978) (by decide +kernel)), z_in (List.mem_of_getElem? (i := 1) (by decide +kernel)), by decide +kernel, by decide +kernel⟩
theorem IX10_compare : Jvm.Cond.instanceMethod yX10_compare ∈ lw_tbl := z_in (List.mem_of_getElem? (i := 976) (by decide +kernel))
theorem VX10_compare : Jvm.Cond.selects "ShadowWard" yX10_compare yX10_compare ∈ lw_tbl := z_in (List.mem_of_getElem? (i := 977) (by decide +kernel))
def CX10_lock_0 : List zEn := [(0, .aload_n 0, 1, 0, 0), (1, .iload_n 2, 2, 0, 0), (2, .invokevirtual 106, 5, 0, 70), (5, .ifCond .eq 19, 8, 0, 24), (8, .aload_n 0, 9, 0, 0), (9, .getfield 12, 12, 0, 47), (12, .iload_n 1, 13, 0, 0), (13, .iload_n 2, 14, 0, 0), (14, .invokevirtual 180, 17, 0, 190), (17, .ifCond .eq 7, 20, 0, 24), (20, .iconst 1, 21, 1, 0), (21, .goto 4, 24, 0, 25), (24, .iconst 0, 25, 0, 0), (25, .invokestatic 59, 28, 0, 71), (28, .aload_n 0, 29, 0, 0), (29, .getfield 12, 32, 0, 47), (32, .iload_n 1, 33, 0, 0), (33, .iload_n 2, 34, 0, 0), (34, .iconst 0, 35, 0, 0), (35, .sipush 247, 38, 247, 0), (38, .invokevirtual 184, 41, 0, 191), (41, .ireturn, 42, 0, 0)]
def MX10_lock : zMI := (yX10_lock, cX10_lock, 3, (some .int), [(99999, CX10_lock_0)], [])
theorem DX10_lock_0 : CX10_lock_0.all (zchk cX10_lock) = true := by decide +kernel
theorem OX10_lock : zMOK MX10_lock := by
  intro q hq e he
  simp only [MX10_lock, zFt, List.mem_cons, List.not_mem_nil, or_false] at hq
  rcases hq with rfl
  · exact List.all_eq_true.mp DX10_lock_0 e he
theorem KX10_lock : zMK MX10_lock := ⟨OX10_lock, by decide +kernel, z_in (List.mem_of_getElem? (i := 985) (by decide +kernel)), z_in (List.mem_of_getElem? (i := 1) (by decide +kernel)), by decide +kernel, by decide +kernel⟩
theorem IX10_lock : Jvm.Cond.instanceMethod yX10_lock ∈ lw_tbl := z_in (List.mem_of_getElem? (i := 983) (by decide +kernel))
theorem VX10_lock : Jvm.Cond.selects "ShadowWard" yX10_lock yX10_lock ∈ lw_tbl := z_in (List.mem_of_getElem? (i := 984) (by decide +kernel))
def CX10_unlock_0 : List zEn := [(0, .aload_n 0, 1, 0, 0), (1, .iload_n 2, 2, 0, 0), (2, .invokevirtual 106, 5, 0, 70), (5, .ifCond .eq 19, 8, 0, 24), (8, .aload_n 0, 9, 0, 0), (9, .getfield 12, 12, 0, 47), (12, .iload_n 1, 13, 0, 0), (13, .iload_n 2, 14, 0, 0), (14, .invokevirtual 180, 17, 0, 190), (17, .ifCond .eq 7, 20, 0, 24), (20, .iconst 1, 21, 1, 0), (21, .goto 4, 24, 0, 25), (24, .iconst 0, 25, 0, 0), (25, .invokestatic 59, 28, 0, 71), (28, .aload_n 0, 29, 0, 0), (29, .getfield 12, 32, 0, 47), (32, .iload_n 1, 33, 0, 0), (33, .iload_n 2, 34, 0, 0), (34, .sipush 247, 37, 247, 0), (37, .iconst 0, 38, 0, 0), (38, .invokevirtual 184, 41, 0, 191), (41, .ireturn, 42, 0, 0)]
def MX10_unlock : zMI := (yX10_unlock, cX10_unlock, 3, (some .int), [(99999, CX10_unlock_0)], [])
theorem DX10_unlock_0 : CX10_unlock_0.all (zchk cX10_unlock) = true := by decide +kernel
theorem OX10_unlock : zMOK MX10_unlock := by
  intro q hq e he
  simp only [MX10_unlock, zFt, List.mem_cons, List.not_mem_nil, or_false] at hq
  rcases hq with rfl
  · exact List.all_eq_true.mp DX10_unlock_0 e he
theorem KX10_unlock : zMK MX10_unlock := ⟨OX10_unlock, by decide +kernel, z_in (List.mem_of_getElem? (i := 997) (by decide +kernel)), z_in (List.mem_of_getElem? (i := 1) (by decide +kernel)), by decide +kernel, by decide +kernel⟩
theorem IX10_unlock : Jvm.Cond.instanceMethod yX10_unlock ∈ lw_tbl := z_in (List.mem_of_getElem? (i := 995) (by decide +kernel))
theorem VX10_unlock : Jvm.Cond.selects "ShadowWard" yX10_unlock yX10_unlock ∈ lw_tbl := z_in (List.mem_of_getElem? (i := 996) (by decide +kernel))
def CX10_report_0 : List zEn := [(0, .iload_n 1, 1, 0, 0), (1, .aload_n 0, 2, 0, 0), (2, .getfield 55, 5, 0, 52), (5, .invokevirtual 187, 8, 0, 32), (8, .invokestatic 189, 11, 0, 138), (11, .iload_n 2, 12, 0, 0), (12, .ifCond .lt 13, 15, 0, 25), (15, .iload_n 2, 16, 0, 0), (16, .bipush 9, 18, 9, 0), (18, .if_icmp .gt 7, 21, 0, 25), (21, .iconst 1, 22, 1, 0), (22, .goto 4, 25, 0, 26), (25, .iconst 0, 26, 0, 0), (26, .invokestatic 59, 29, 0, 71), (29, .aload_n 0, 30, 0, 0), (30, .getfield 55, 33, 0, 52), (33, .iload_n 1, 34, 0, 0), (34, .invokevirtual 193, 37, 0, 141), (37, .checkcast 197, 40, 0, 15), (40, .iload_n 2, 41, 0, 0), (41, .invokevirtual 199, 44, 0, 196), (44, .ireturn, 45, 0, 0)]
def MX10_report : zMI := (yX10_report, cX10_report, 3, (some .int), [(99999, CX10_report_0)], [])
theorem DX10_report_0 : CX10_report_0.all (zchk cX10_report) = true := by decide +kernel
theorem OX10_report : zMOK MX10_report := by
  intro q hq e he
  simp only [MX10_report, zFt, List.mem_cons, List.not_mem_nil, or_false] at hq
  rcases hq with rfl
  · exact List.all_eq_true.mp DX10_report_0 e he
theorem KX10_report : zMK MX10_report := ⟨OX10_report, by decide +kernel, z_in (List.mem_of_getElem? (i := 1004) (by decide +kernel)), z_in (List.mem_of_getElem? (i := 1) (by decide +kernel)), by decide +kernel, by decide +kernel⟩
theorem IX10_report : Jvm.Cond.instanceMethod yX10_report ∈ lw_tbl := z_in (List.mem_of_getElem? (i := 1002) (by decide +kernel))
theorem VX10_report : Jvm.Cond.selects "ShadowWard" yX10_report yX10_report ∈ lw_tbl := z_in (List.mem_of_getElem? (i := 1003) (by decide +kernel))
def CX10_block_0 : List zEn := [(0, .iload_n 1, 1, 0, 0), (1, .aload_n 0, 2, 0, 0), (2, .getfield 39, 5, 0, 50), (5, .getfield 202, 8, 0, 31), (8, .invokevirtual 187, 11, 0, 32), (11, .invokestatic 189, 14, 0, 138), (14, .iload_n 2, 15, 0, 0), (15, .ifCond .lt 13, 18, 0, 28), (18, .iload_n 2, 19, 0, 0), (19, .bipush 7, 21, 7, 0), (21, .if_icmp .gt 7, 24, 0, 28), (24, .iconst 1, 25, 1, 0), (25, .goto 4, 28, 0, 29), (28, .iconst 0, 29, 0, 0), (29, .invokestatic 59, 32, 0, 71), (32, .aload_n 0, 33, 0, 0), (33, .getfield 39, 36, 0, 50), (36, .getfield 202, 39, 0, 31), (39, .iload_n 1, 40, 0, 0), (40, .invokevirtual 193, 43, 0, 141), (43, .checkcast 114, 46, 0, 33), (46, .iload_n 2, 47, 0, 0), (47, .invokevirtual 205, 50, 0, 199), (50, .ireturn, 51, 0, 0)]
def MX10_block : zMI := (yX10_block, cX10_block, 3, (some .int), [(99999, CX10_block_0)], [])
theorem DX10_block_0 : CX10_block_0.all (zchk cX10_block) = true := by decide +kernel
theorem OX10_block : zMOK MX10_block := by
  intro q hq e he
  simp only [MX10_block, zFt, List.mem_cons, List.not_mem_nil, or_false] at hq
  rcases hq with rfl
  · exact List.all_eq_true.mp DX10_block_0 e he
theorem KX10_block : zMK MX10_block := ⟨OX10_block, by decide +kernel, z_in (List.mem_of_getElem? (i := 1015) (by decide +kernel)), z_in (List.mem_of_getElem? (i := 1) (by decide +kernel)), by decide +kernel, by decide +kernel⟩
theorem IX10_block : Jvm.Cond.instanceMethod yX10_block ∈ lw_tbl := z_in (List.mem_of_getElem? (i := 1013) (by decide +kernel))
theorem VX10_block : Jvm.Cond.selects "ShadowWard" yX10_block yX10_block ∈ lw_tbl := z_in (List.mem_of_getElem? (i := 1014) (by decide +kernel))
def CX10_shadow_0 : List zEn := [(0, .iload_n 1, 1, 0, 0), (1, .aload_n 0, 2, 0, 0), (2, .getfield 12, 5, 0, 47), (5, .invokevirtual 206, 8, 0, 202), (8, .invokestatic 189, 11, 0, 138), (11, .aload_n 0, 12, 0, 0), (12, .getfield 12, 15, 0, 47), (15, .iload_n 1, 16, 0, 0), (16, .invokevirtual 209, 19, 0, 203), (19, .ireturn, 20, 0, 0)]
def MX10_shadow : zMI := (yX10_shadow, cX10_shadow, 2, (some .int), [(99999, CX10_shadow_0)], [])
theorem DX10_shadow_0 : CX10_shadow_0.all (zchk cX10_shadow) = true := by decide +kernel
theorem OX10_shadow : zMOK MX10_shadow := by
  intro q hq e he
  simp only [MX10_shadow, zFt, List.mem_cons, List.not_mem_nil, or_false] at hq
  rcases hq with rfl
  · exact List.all_eq_true.mp DX10_shadow_0 e he
theorem KX10_shadow : zMK MX10_shadow := ⟨OX10_shadow, by decide +kernel, z_in (List.mem_of_getElem? (i := 1027) (by decide +kernel)), z_in (List.mem_of_getElem? (i := 1) (by decide +kernel)), by decide +kernel, by decide +kernel⟩
theorem IX10_shadow : Jvm.Cond.instanceMethod yX10_shadow ∈ lw_tbl := z_in (List.mem_of_getElem? (i := 1025) (by decide +kernel))
theorem VX10_shadow : Jvm.Cond.selects "ShadowWard" yX10_shadow yX10_shadow ∈ lw_tbl := z_in (List.mem_of_getElem? (i := 1026) (by decide +kernel))
def CX10_peek_0 : List zEn := [(0, .iload_n 1, 1, 0, 0), (1, .aload_n 0, 2, 0, 0), (2, .getfield 12, 5, 0, 47), (5, .getfield 164, 8, 0, 2), (8, .invokestatic 189, 11, 0, 138), (11, .aload_n 0, 12, 0, 0), (12, .getfield 12, 15, 0, 47), (15, .iload_n 1, 16, 0, 0), (16, .invokevirtual 165, 19, 0, 66), (19, .ireturn, 20, 0, 0)]
def MX10_peek : zMI := (yX10_peek, cX10_peek, 2, (some .int), [(99999, CX10_peek_0)], [])
theorem DX10_peek_0 : CX10_peek_0.all (zchk cX10_peek) = true := by decide +kernel
theorem OX10_peek : zMOK MX10_peek := by
  intro q hq e he
  simp only [MX10_peek, zFt, List.mem_cons, List.not_mem_nil, or_false] at hq
  rcases hq with rfl
  · exact List.all_eq_true.mp DX10_peek_0 e he
theorem KX10_peek : zMK MX10_peek := ⟨OX10_peek, by decide +kernel, z_in (List.mem_of_getElem? (i := 1039) (by decide +kernel)), z_in (List.mem_of_getElem? (i := 1) (by decide +kernel)), by decide +kernel, by decide +kernel⟩
theorem IX10_peek : Jvm.Cond.instanceMethod yX10_peek ∈ lw_tbl := z_in (List.mem_of_getElem? (i := 1037) (by decide +kernel))
theorem VX10_peek : Jvm.Cond.selects "ShadowWard" yX10_peek yX10_peek ∈ lw_tbl := z_in (List.mem_of_getElem? (i := 1038) (by decide +kernel))
def CX10_held_0 : List zEn := [(0, .iload_n 1, 1, 0, 0), (1, .aload_n 0, 2, 0, 0), (2, .getfield 39, 5, 0, 50), (5, .getfield 212, 8, 0, 33), (8, .invokevirtual 187, 11, 0, 32), (11, .invokestatic 189, 14, 0, 138), (14, .aload_n 0, 15, 0, 0), (15, .getfield 39, 18, 0, 50), (18, .getfield 212, 21, 0, 33), (21, .iload_n 1, 22, 0, 0), (22, .invokevirtual 193, 25, 0, 141), (25, .checkcast 114, 28, 0, 33), (28, .getfield 215, 31, 0, 75), (31, .ireturn, 32, 0, 0)]
def MX10_held : zMI := (yX10_held, cX10_held, 2, (some .int), [(99999, CX10_held_0)], [])
theorem DX10_held_0 : CX10_held_0.all (zchk cX10_held) = true := by decide +kernel
theorem OX10_held : zMOK MX10_held := by
  intro q hq e he
  simp only [MX10_held, zFt, List.mem_cons, List.not_mem_nil, or_false] at hq
  rcases hq with rfl
  · exact List.all_eq_true.mp DX10_held_0 e he
theorem KX10_held : zMK MX10_held := ⟨OX10_held, by decide +kernel, z_in (List.mem_of_getElem? (i := 1046) (by decide +kernel)), z_in (List.mem_of_getElem? (i := 1) (by decide +kernel)), by decide +kernel, by decide +kernel⟩
theorem IX10_held : Jvm.Cond.instanceMethod yX10_held ∈ lw_tbl := z_in (List.mem_of_getElem? (i := 1044) (by decide +kernel))
theorem VX10_held : Jvm.Cond.selects "ShadowWard" yX10_held yX10_held ∈ lw_tbl := z_in (List.mem_of_getElem? (i := 1045) (by decide +kernel))
def CX10_lost_0 : List zEn := [(0, .aload_n 0, 1, 0, 0), (1, .getfield 48, 4, 0, 51), (4, .iload_n 1, 5, 0, 0), (5, .iload_n 2, 6, 0, 0), (6, .invokevirtual 217, 9, 0, 84), (9, .ireturn, 10, 0, 0)]
def MX10_lost : zMI := (yX10_lost, cX10_lost, 3, (some .int), [(99999, CX10_lost_0)], [])
theorem DX10_lost_0 : CX10_lost_0.all (zchk cX10_lost) = true := by decide +kernel
theorem OX10_lost : zMOK MX10_lost := by
  intro q hq e he
  simp only [MX10_lost, zFt, List.mem_cons, List.not_mem_nil, or_false] at hq
  rcases hq with rfl
  · exact List.all_eq_true.mp DX10_lost_0 e he
theorem KX10_lost : zMK MX10_lost := ⟨OX10_lost, by decide +kernel, z_in (List.mem_of_getElem? (i := 528) (by decide +kernel)), z_in (List.mem_of_getElem? (i := 1) (by decide +kernel)), by decide +kernel, by decide +kernel⟩
theorem IX10_lost : Jvm.Cond.instanceMethod yX10_lost ∈ lw_tbl := z_in (List.mem_of_getElem? (i := 526) (by decide +kernel))
theorem VX10_lost : Jvm.Cond.selects "ShadowWard" yX10_lost yX10_lost ∈ lw_tbl := z_in (List.mem_of_getElem? (i := 527) (by decide +kernel))
def CX10_told_0 : List zEn := [(0, .iload_n 1, 1, 0, 0), (1, .ifCond .lt 13, 4, 0, 14), (4, .iload_n 1, 5, 0, 0), (5, .bipush 11, 7, 11, 0), (7, .if_icmp .gt 7, 10, 0, 14), (10, .iconst 1, 11, 1, 0), (11, .goto 4, 14, 0, 15), (14, .iconst 0, 15, 0, 0), (15, .invokestatic 59, 18, 0, 71), (18, .iload_n 1, 19, 0, 0), (19, .tableswitch 154 0 10 #[57, 65, 73, 84, 92, 103, 111, 119, 130, 138, 146], 76, 0, 0), (76, .aload_n 0, 77, 0, 0), (77, .getfield 12, 80, 0, 47), (80, .getfield 164, 83, 0, 2), (83, .ireturn, 84, 0, 0), (84, .aload_n 0, 85, 0, 0), (85, .getfield 39, 88, 0, 50), (88, .getfield 221, 91, 0, 28), (91, .ireturn, 92, 0, 0), (92, .aload_n 0, 93, 0, 0), (93, .getfield 23, 96, 0, 48), (96, .getfield 224, 99, 0, 21), (99, .invokevirtual 187, 102, 0, 32), (102, .ireturn, 103, 0, 0), (103, .aload_n 0, 104, 0, 0), (104, .getfield 30, 107, 0, 49), (107, .invokevirtual 75, 110, 0, 128), (110, .ireturn, 111, 0, 0), (111, .aload_n 0, 112, 0, 0), (112, .getfield 39, 115, 0, 50)]
def CX10_told_1 : List zEn := [(115, .getfield 202, 118, 0, 31), (118, .invokevirtual 187, 121, 0, 32), (121, .ireturn, 122, 0, 0), (122, .aload_n 0, 123, 0, 0), (123, .getfield 39, 126, 0, 50), (126, .getfield 227, 129, 0, 37), (129, .ireturn, 130, 0, 0), (130, .aload_n 0, 131, 0, 0), (131, .getfield 55, 134, 0, 52), (134, .invokevirtual 187, 137, 0, 32), (137, .ireturn, 138, 0, 0), (138, .aload_n 0, 139, 0, 0), (139, .getfield 39, 142, 0, 50), (142, .getfield 212, 145, 0, 33), (145, .invokevirtual 187, 148, 0, 32), (148, .ireturn, 149, 0, 0), (149, .aload_n 0, 150, 0, 0), (150, .getfield 39, 153, 0, 50), (153, .getfield 230, 156, 0, 41), (156, .ireturn, 157, 0, 0), (157, .aload_n 0, 158, 0, 0), (158, .getfield 39, 161, 0, 50), (161, .getfield 233, 164, 0, 39), (164, .ireturn, 165, 0, 0), (165, .aload_n 0, 166, 0, 0), (166, .getfield 12, 169, 0, 47), (169, .invokevirtual 236, 172, 0, 210), (172, .ireturn, 173, 0, 0), (173, .aload_n 0, 174, 0, 0), (174, .getfield 48, 177, 0, 51)]
def CX10_told_2 : List zEn := [(177, .invokevirtual 239, 180, 0, 211), (180, .ireturn, 181, 0, 0)]
def MX10_told : zMI := (yX10_told, cX10_told, 2, (some .int), [(115, CX10_told_0), (177, CX10_told_1), (99999, CX10_told_2)], [])
theorem DX10_told_0 : CX10_told_0.all (zchk cX10_told) = true := by decide +kernel
theorem DX10_told_1 : CX10_told_1.all (zchk cX10_told) = true := by decide +kernel
theorem DX10_told_2 : CX10_told_2.all (zchk cX10_told) = true := by decide +kernel
theorem OX10_told : zMOK MX10_told := by
  intro q hq e he
  simp only [MX10_told, zFt, List.mem_cons, List.not_mem_nil, or_false] at hq
  rcases hq with rfl | rfl | rfl
  · exact List.all_eq_true.mp DX10_told_0 e he
  · exact List.all_eq_true.mp DX10_told_1 e he
  · exact List.all_eq_true.mp DX10_told_2 e he
theorem KX10_told : zMK MX10_told := ⟨OX10_told, by decide +kernel, z_in (List.mem_of_getElem? (i := 1053) (by decide +kernel)), z_in (List.mem_of_getElem? (i := 1) (by decide +kernel)), by decide +kernel, by decide +kernel⟩
theorem IX10_told : Jvm.Cond.instanceMethod yX10_told ∈ lw_tbl := z_in (List.mem_of_getElem? (i := 1051) (by decide +kernel))
theorem VX10_told : Jvm.Cond.selects "ShadowWard" yX10_told yX10_told ∈ lw_tbl := z_in (List.mem_of_getElem? (i := 1052) (by decide +kernel))
def CX10_demand_0 : List zEn := [(0, .iload_n 0, 1, 0, 0), (1, .ifCond .ne 13, 4, 0, 14), (4, .new 240, 7, 0, 19), (7, .dup, 8, 0, 0), (8, .ldc 242, 10, 0, 0), (10, .invokespecial 244, 13, 0, 75), (13, .athrow, 14, 0, 0), (14, .return_, 15, 0, 0)]
def MX10_demand : zMI := (yX10_demand, cX10_demand, 1, none, [(99999, CX10_demand_0)], [])
theorem DX10_demand_0 : CX10_demand_0.all (zchk cX10_demand) = true := by decide +kernel
theorem OX10_demand : zMOK MX10_demand := by
  intro q hq e he
  simp only [MX10_demand, zFt, List.mem_cons, List.not_mem_nil, or_false] at hq
  rcases hq with rfl
  · exact List.all_eq_true.mp DX10_demand_0 e he
theorem KX10_demand : zMK MX10_demand := ⟨OX10_demand, by decide +kernel, z_in (List.mem_of_getElem? (i := 444) (by decide +kernel)), z_in (List.mem_of_getElem? (i := 1) (by decide +kernel)), by decide +kernel, by decide +kernel⟩
theorem SX10_demand : Jvm.Cond.static yX10_demand ∈ lw_tbl := z_in (List.mem_of_getElem? (i := 443) (by decide +kernel))
def CX10_demandIndex_0 : List zEn := [(0, .iload_n 0, 1, 0, 0), (1, .ifCond .lt 8, 4, 0, 9), (4, .iload_n 0, 5, 0, 0), (5, .iload_n 1, 6, 0, 0), (6, .if_icmp .lt 13, 9, 0, 19), (9, .new 245, 12, 0, 30), (12, .dup, 13, 0, 0), (13, .ldc 247, 15, 0, 0), (15, .invokespecial 249, 18, 0, 139), (18, .athrow, 19, 0, 0), (19, .return_, 20, 0, 0)]
def MX10_demandIndex : zMI := (yX10_demandIndex, cX10_demandIndex, 2, none, [(99999, CX10_demandIndex_0)], [])
theorem DX10_demandIndex_0 : CX10_demandIndex_0.all (zchk cX10_demandIndex) = true := by decide +kernel
theorem OX10_demandIndex : zMOK MX10_demandIndex := by
  intro q hq e he
  simp only [MX10_demandIndex, zFt, List.mem_cons, List.not_mem_nil, or_false] at hq
  rcases hq with rfl
  · exact List.all_eq_true.mp DX10_demandIndex_0 e he
theorem KX10_demandIndex : zMK MX10_demandIndex := ⟨OX10_demandIndex, by decide +kernel, z_in (List.mem_of_getElem? (i := 793) (by decide +kernel)), z_in (List.mem_of_getElem? (i := 1) (by decide +kernel)), by decide +kernel, by decide +kernel⟩
theorem SX10_demandIndex : Jvm.Cond.static yX10_demandIndex ∈ lw_tbl := z_in (List.mem_of_getElem? (i := 792) (by decide +kernel))
def CX10_isVariableSize_0 : List zEn := [(0, .iload_n 0, 1, 0, 0), (1, .ifCond .lt 14, 4, 0, 15), (4, .iload_n 0, 5, 0, 0), (5, .sipush 128, 8, 128, 0), (8, .if_icmp .gt 7, 11, 0, 15), (11, .iconst 1, 12, 1, 0), (12, .goto 4, 15, 0, 16), (15, .iconst 0, 16, 0, 0), (16, .ireturn, 17, 0, 0)]
def MX10_isVariableSize : zMI := (yX10_isVariableSize, cX10_isVariableSize, 1, (some .boolean), [(99999, CX10_isVariableSize_0)], [])
theorem DX10_isVariableSize_0 : CX10_isVariableSize_0.all (zchk cX10_isVariableSize) = true := by decide +kernel
theorem OX10_isVariableSize : zMOK MX10_isVariableSize := by
  intro q hq e he
  simp only [MX10_isVariableSize, zFt, List.mem_cons, List.not_mem_nil, or_false] at hq
  rcases hq with rfl
  · exact List.all_eq_true.mp DX10_isVariableSize_0 e he
theorem KX10_isVariableSize : zMK MX10_isVariableSize := ⟨OX10_isVariableSize, by decide +kernel, z_in (List.mem_of_getElem? (i := 680) (by decide +kernel)), z_in (List.mem_of_getElem? (i := 1) (by decide +kernel)), by decide +kernel, by decide +kernel⟩
theorem SX10_isVariableSize : Jvm.Cond.static yX10_isVariableSize ∈ lw_tbl := z_in (List.mem_of_getElem? (i := 679) (by decide +kernel))
def CX10_isBlockKind_0 : List zEn := [(0, .iload_n 0, 1, 0, 0), (1, .ifCond .lt 12, 4, 0, 13), (4, .iload_n 0, 5, 0, 0), (5, .iconst 2, 6, 2, 0), (6, .if_icmp .gt 7, 9, 0, 13), (9, .iconst 1, 10, 1, 0), (10, .goto 4, 13, 0, 14), (13, .iconst 0, 14, 0, 0), (14, .ireturn, 15, 0, 0)]
def MX10_isBlockKind : zMI := (yX10_isBlockKind, cX10_isBlockKind, 1, (some .boolean), [(99999, CX10_isBlockKind_0)], [])
theorem DX10_isBlockKind_0 : CX10_isBlockKind_0.all (zchk cX10_isBlockKind) = true := by decide +kernel
theorem OX10_isBlockKind : zMOK MX10_isBlockKind := by
  intro q hq e he
  simp only [MX10_isBlockKind, zFt, List.mem_cons, List.not_mem_nil, or_false] at hq
  rcases hq with rfl
  · exact List.all_eq_true.mp DX10_isBlockKind_0 e he
theorem KX10_isBlockKind : zMK MX10_isBlockKind := ⟨OX10_isBlockKind, by decide +kernel, z_in (List.mem_of_getElem? (i := 833) (by decide +kernel)), z_in (List.mem_of_getElem? (i := 1) (by decide +kernel)), by decide +kernel, by decide +kernel⟩
theorem SX10_isBlockKind : Jvm.Cond.static yX10_isBlockKind ∈ lw_tbl := z_in (List.mem_of_getElem? (i := 832) (by decide +kernel))
def CX10_isCount_0 : List zEn := [(0, .iload_n 1, 1, 0, 0), (1, .ifCond .lt 18, 4, 0, 19), (4, .iload_n 1, 5, 0, 0), (5, .aload_n 0, 6, 0, 0), (6, .getfield 12, 9, 0, 47), (9, .getfield 164, 12, 0, 2), (12, .if_icmp .gt 7, 15, 0, 19), (15, .iconst 1, 16, 1, 0), (16, .goto 4, 19, 0, 20), (19, .iconst 0, 20, 0, 0), (20, .ireturn, 21, 0, 0)]
def MX10_isCount : zMI := (yX10_isCount, cX10_isCount, 2, (some .boolean), [(99999, CX10_isCount_0)], [])
theorem DX10_isCount_0 : CX10_isCount_0.all (zchk cX10_isCount) = true := by decide +kernel
theorem OX10_isCount : zMOK MX10_isCount := by
  intro q hq e he
  simp only [MX10_isCount, zFt, List.mem_cons, List.not_mem_nil, or_false] at hq
  rcases hq with rfl
  · exact List.all_eq_true.mp DX10_isCount_0 e he
theorem KX10_isCount : zMK MX10_isCount := ⟨OX10_isCount, by decide +kernel, z_in (List.mem_of_getElem? (i := 441) (by decide +kernel)), z_in (List.mem_of_getElem? (i := 1) (by decide +kernel)), by decide +kernel, by decide +kernel⟩
theorem IX10_isCount : Jvm.Cond.instanceMethod yX10_isCount ∈ lw_tbl := z_in (List.mem_of_getElem? (i := 440) (by decide +kernel))
theorem VX10_isCount : Jvm.Cond.selects "ShadowWard" yX10_isCount yX10_isCount ∈ lw_tbl := List.mem_append_left _ (List.mem_of_getElem? (i := 6) (by decide +kernel))
def CX10_roundUp_0 : List zEn := [(0, .iload_n 0, 1, 0, 0), (1, .iload_n 1, 2, 0, 0), (2, .iadd, 3, 0, 0), (3, .iconst 1, 4, 1, 0), (4, .isub, 5, 0, 0), (5, .iload_n 1, 6, 0, 0), (6, .ineg, 7, 0, 0), (7, .iand, 8, 0, 0), (8, .ireturn, 9, 0, 0)]
def MX10_roundUp : zMI := (yX10_roundUp, cX10_roundUp, 2, (some .int), [(99999, CX10_roundUp_0)], [])
theorem DX10_roundUp_0 : CX10_roundUp_0.all (zchk cX10_roundUp) = true := by decide +kernel
theorem OX10_roundUp : zMOK MX10_roundUp := by
  intro q hq e he
  simp only [MX10_roundUp, zFt, List.mem_cons, List.not_mem_nil, or_false] at hq
  rcases hq with rfl
  · exact List.all_eq_true.mp DX10_roundUp_0 e he
theorem KX10_roundUp : zMK MX10_roundUp := ⟨OX10_roundUp, by decide +kernel, z_in (List.mem_of_getElem? (i := 49) (by decide +kernel)), z_in (List.mem_of_getElem? (i := 1) (by decide +kernel)), by decide +kernel, by decide +kernel⟩
theorem SX10_roundUp : Jvm.Cond.static yX10_roundUp ∈ lw_tbl := z_in (List.mem_of_getElem? (i := 48) (by decide +kernel))
def CX10_variableOf_0 : List zEn := [(0, .iload_n 1, 1, 0, 0), (1, .aload_n 0, 2, 0, 0), (2, .getfield 30, 5, 0, 49), (5, .invokevirtual 75, 8, 0, 128), (8, .invokestatic 189, 11, 0, 138), (11, .aload_n 0, 12, 0, 0), (12, .getfield 30, 15, 0, 49), (15, .getfield 250, 18, 0, 25), (18, .iload_n 1, 19, 0, 0), (19, .invokevirtual 193, 22, 0, 141), (22, .checkcast 252, 25, 0, 31), (25, .getfield 254, 28, 0, 107), (28, .astore_n 3, 29, 0, 0), (29, .iload_n 2, 30, 0, 0), (30, .aload_n 3, 31, 0, 0), (31, .invokevirtual 187, 34, 0, 32), (34, .invokestatic 189, 37, 0, 138), (37, .aload_n 3, 38, 0, 0), (38, .iload_n 2, 39, 0, 0), (39, .invokevirtual 193, 42, 0, 141), (42, .checkcast 98, 45, 0, 32), (45, .areturn, 46, 0, 0)]
def MX10_variableOf : zMI := (yX10_variableOf, cX10_variableOf, 4, (some (.object "ShadowWard$Variable")), [(99999, CX10_variableOf_0)], [])
theorem DX10_variableOf_0 : CX10_variableOf_0.all (zchk cX10_variableOf) = true := by decide +kernel
theorem OX10_variableOf : zMOK MX10_variableOf := by
  intro q hq e he
  simp only [MX10_variableOf, zFt, List.mem_cons, List.not_mem_nil, or_false] at hq
  rcases hq with rfl
  · exact List.all_eq_true.mp DX10_variableOf_0 e he
theorem KX10_variableOf : zMK MX10_variableOf := ⟨OX10_variableOf, by decide +kernel, z_in (List.mem_of_getElem? (i := 790) (by decide +kernel)), z_in (List.mem_of_getElem? (i := 1) (by decide +kernel)), by decide +kernel, by decide +kernel⟩
theorem IX10_variableOf : Jvm.Cond.instanceMethod yX10_variableOf ∈ lw_tbl := z_in (List.mem_of_getElem? (i := 789) (by decide +kernel))
theorem VX10_variableOf : Jvm.Cond.selects "ShadowWard" yX10_variableOf yX10_variableOf ∈ lw_tbl := List.mem_append_left _ (List.mem_of_getElem? (i := 18) (by decide +kernel))
def CX10_blockToFree_0 : List zEn := [(0, .aload_n 0, 1, 0, 0), (1, .getfield 39, 4, 0, 50), (4, .iload_n 2, 5, 0, 0), (5, .invokevirtual 257, 8, 0, 169), (8, .astore_n 3, 9, 0, 0), (9, .aload_n 3, 10, 0, 0), (10, .ifnonnull 14, 13, 0, 24), (13, .aload_n 0, 14, 0, 0), (14, .bipush 11, 16, 11, 0), (16, .iload_n 2, 17, 0, 0), (17, .iconst 0, 18, 0, 0), (18, .iconst 1, 19, 1, 0), (19, .invokevirtual 160, 22, 0, 31), (22, .aconst_null, 23, 0, 0), (23, .areturn, 24, 0, 0), (24, .aload_n 3, 25, 0, 0), (25, .getfield 261, 28, 0, 119), (28, .iconst 1, 29, 1, 0), (29, .if_icmp .ne 14, 32, 0, 43), (32, .aload_n 0, 33, 0, 0), (33, .bipush 10, 35, 10, 0), (35, .iload_n 2, 36, 0, 0), (36, .iconst 0, 37, 0, 0), (37, .iconst 1, 38, 1, 0), (38, .invokevirtual 160, 41, 0, 31), (41, .aconst_null, 42, 0, 0), (42, .areturn, 43, 0, 0), (43, .aload_n 3, 44, 0, 0), (44, .getfield 264, 47, 0, 112), (47, .iload_n 1, 48, 0, 0)]
def CX10_blockToFree_1 : List zEn := [(48, .if_icmp .eq 14, 51, 0, 62), (51, .aload_n 0, 52, 0, 0), (52, .bipush 12, 54, 12, 0), (54, .iload_n 2, 55, 0, 0), (55, .iconst 0, 56, 0, 0), (56, .iconst 1, 57, 1, 0), (57, .invokevirtual 160, 60, 0, 31), (60, .aconst_null, 61, 0, 0), (61, .areturn, 62, 0, 0), (62, .aload_n 3, 63, 0, 0), (63, .areturn, 64, 0, 0)]
def MX10_blockToFree : zMI := (yX10_blockToFree, cX10_blockToFree, 4, (some (.object "ShadowWard$Block")), [(48, CX10_blockToFree_0), (99999, CX10_blockToFree_1)], [])
theorem DX10_blockToFree_0 : CX10_blockToFree_0.all (zchk cX10_blockToFree) = true := by decide +kernel
theorem DX10_blockToFree_1 : CX10_blockToFree_1.all (zchk cX10_blockToFree) = true := by decide +kernel
theorem OX10_blockToFree : zMOK MX10_blockToFree := by
  intro q hq e he
  simp only [MX10_blockToFree, zFt, List.mem_cons, List.not_mem_nil, or_false] at hq
  rcases hq with rfl | rfl
  · exact List.all_eq_true.mp DX10_blockToFree_0 e he
  · exact List.all_eq_true.mp DX10_blockToFree_1 e he
theorem KX10_blockToFree : zMK MX10_blockToFree := ⟨OX10_blockToFree, by decide +kernel, z_in (List.mem_of_getElem? (i := 923) (by decide +kernel)), z_in (List.mem_of_getElem? (i := 1) (by decide +kernel)), by decide +kernel, by decide +kernel⟩
theorem IX10_blockToFree : Jvm.Cond.instanceMethod yX10_blockToFree ∈ lw_tbl := z_in (List.mem_of_getElem? (i := 922) (by decide +kernel))
theorem VX10_blockToFree : Jvm.Cond.selects "ShadowWard" yX10_blockToFree yX10_blockToFree ∈ lw_tbl := List.mem_append_left _ (List.mem_of_getElem? (i := 23) (by decide +kernel))
def CX10_permits_0 : List zEn := [(0, .aload_n 0, 1, 0, 0), (1, .getfield 12, 4, 0, 47), (4, .iload_n 1, 5, 0, 0), (5, .iload_n 2, 6, 0, 0), (6, .invokevirtual 267, 9, 0, 25), (9, .istore 4, 11, 0, 0), (11, .iload 4, 13, 0, 0), (13, .iconst (-1), 14, (-1), 0), (14, .if_icmp .ne 5, 17, 0, 19), (17, .iconst 1, 18, 1, 0), (18, .ireturn, 19, 0, 0), (19, .iload_n 1, 20, 0, 0), (20, .iload 4, 22, 0, 0), (22, .iadd, 23, 0, 0), (23, .istore 5, 25, 0, 0), (25, .aload_n 0, 26, 0, 0), (26, .aload_n 0, 27, 0, 0), (27, .getfield 12, 30, 0, 47), (30, .iload 5, 32, 0, 0), (32, .invokevirtual 270, 35, 0, 30), (35, .iload 5, 37, 0, 0), (37, .iload_n 2, 38, 0, 0), (38, .iload_n 3, 39, 0, 0), (39, .invokevirtual 160, 42, 0, 31), (42, .iconst 0, 43, 0, 0), (43, .ireturn, 44, 0, 0)]
def MX10_permits : zMI := (yX10_permits, cX10_permits, 6, (some .boolean), [(99999, CX10_permits_0)], [])
theorem DX10_permits_0 : CX10_permits_0.all (zchk cX10_permits) = true := by decide +kernel
theorem OX10_permits : zMOK MX10_permits := by
  intro q hq e he
  simp only [MX10_permits, zFt, List.mem_cons, List.not_mem_nil, or_false] at hq
  rcases hq with rfl
  · exact List.all_eq_true.mp DX10_permits_0 e he
theorem KX10_permits : zMK MX10_permits := ⟨OX10_permits, by decide +kernel, z_in (List.mem_of_getElem? (i := 234) (by decide +kernel)), z_in (List.mem_of_getElem? (i := 1) (by decide +kernel)), by decide +kernel, by decide +kernel⟩
theorem IX10_permits : Jvm.Cond.instanceMethod yX10_permits ∈ lw_tbl := z_in (List.mem_of_getElem? (i := 233) (by decide +kernel))
theorem VX10_permits : Jvm.Cond.selects "ShadowWard" yX10_permits yX10_permits ∈ lw_tbl := List.mem_append_left _ (List.mem_of_getElem? (i := 0) (by decide +kernel))
def CX10_tell_0 : List zEn := [(0, .aload_n 0, 1, 0, 0), (1, .getfield 55, 4, 0, 52), (4, .invokevirtual 187, 7, 0, 32), (7, .sipush 512, 10, 512, 0), (10, .if_icmp .lt 4, 13, 0, 14), (13, .return_, 14, 0, 0), (14, .aconst_null, 15, 0, 0), (15, .astore 5, 17, 0, 0), (17, .aload_n 0, 18, 0, 0), (18, .getfield 12, 21, 0, 47), (21, .iload_n 2, 22, 0, 0), (22, .invokevirtual 273, 25, 0, 33), (25, .ifCond .eq 61, 28, 0, 86), (28, .iload_n 2, 29, 0, 0), (29, .aload_n 0, 30, 0, 0), (30, .getfield 12, 33, 0, 47), (33, .getfield 276, 36, 0, 6), (36, .if_icmp .ge 16, 39, 0, 52), (39, .aload_n 0, 40, 0, 0), (40, .getfield 23, 43, 0, 48), (43, .iload_n 2, 44, 0, 0), (44, .invokevirtual 279, 47, 0, 34), (47, .astore 5, 49, 0, 0), (49, .goto 37, 52, 0, 86), (52, .iload_n 2, 53, 0, 0), (53, .aload_n 0, 54, 0, 0), (54, .getfield 12, 57, 0, 47), (57, .getfield 283, 60, 0, 10), (60, .if_icmp .ge 16, 63, 0, 76), (63, .aload_n 0, 64, 0, 0)]
def CX10_tell_1 : List zEn := [(64, .getfield 30, 67, 0, 49), (67, .iload_n 2, 68, 0, 0), (68, .invokevirtual 286, 71, 0, 42), (71, .astore 5, 73, 0, 0), (73, .goto 13, 76, 0, 86), (76, .aload_n 0, 77, 0, 0), (77, .getfield 39, 80, 0, 50), (80, .iload_n 2, 81, 0, 0), (81, .invokevirtual 287, 84, 0, 46), (84, .astore 5, 86, 0, 0), (86, .aload_n 0, 87, 0, 0), (87, .getfield 55, 90, 0, 52), (90, .new 197, 93, 0, 15), (93, .dup, 94, 0, 0), (94, .iload_n 1, 95, 0, 0), (95, .iload_n 2, 96, 0, 0), (96, .iload_n 3, 97, 0, 0), (97, .iload 4, 99, 0, 0), (99, .aload 5, 101, 0, 0), (101, .invokespecial 288, 104, 0, 49), (104, .invokevirtual 291, 107, 0, 53), (107, .pop, 108, 0, 0), (108, .return_, 109, 0, 0)]
def MX10_tell : zMI := (yX10_tell, cX10_tell, 6, none, [(64, CX10_tell_0), (99999, CX10_tell_1)], [])
theorem DX10_tell_0 : CX10_tell_0.all (zchk cX10_tell) = true := by decide +kernel
theorem DX10_tell_1 : CX10_tell_1.all (zchk cX10_tell) = true := by decide +kernel
theorem OX10_tell : zMOK MX10_tell := by
  intro q hq e he
  simp only [MX10_tell, zFt, List.mem_cons, List.not_mem_nil, or_false] at hq
  rcases hq with rfl | rfl
  · exact List.all_eq_true.mp DX10_tell_0 e he
  · exact List.all_eq_true.mp DX10_tell_1 e he
theorem KX10_tell : zMK MX10_tell := ⟨OX10_tell, by decide +kernel, z_in (List.mem_of_getElem? (i := 262) (by decide +kernel)), z_in (List.mem_of_getElem? (i := 1) (by decide +kernel)), by decide +kernel, by decide +kernel⟩
theorem IX10_tell : Jvm.Cond.instanceMethod yX10_tell ∈ lw_tbl := z_in (List.mem_of_getElem? (i := 261) (by decide +kernel))
theorem VX10_tell : Jvm.Cond.selects "ShadowWard" yX10_tell yX10_tell ∈ lw_tbl := List.mem_append_left _ (List.mem_of_getElem? (i := 2) (by decide +kernel))
def CX10_nearer_0 : List zEn := [(0, .aload_n 0, 1, 0, 0), (1, .ifnonnull 5, 4, 0, 6), (4, .aload_n 1, 5, 0, 0), (5, .areturn, 6, 0, 0), (6, .aload_n 1, 7, 0, 0), (7, .iload_n 2, 8, 0, 0), (8, .invokevirtual 295, 11, 0, 40), (11, .aload_n 0, 12, 0, 0), (12, .iload_n 2, 13, 0, 0), (13, .invokevirtual 295, 16, 0, 40), (16, .invokestatic 175, 19, 0, 41), (19, .istore_n 3, 20, 0, 0), (20, .iload_n 3, 21, 0, 0), (21, .ifCond .ne 15, 24, 0, 36), (24, .aload_n 1, 25, 0, 0), (25, .getfield 300, 28, 0, 84), (28, .aload_n 0, 29, 0, 0), (29, .getfield 300, 32, 0, 84), (32, .invokestatic 175, 35, 0, 41), (35, .istore_n 3, 36, 0, 0), (36, .iload_n 3, 37, 0, 0), (37, .ifCond .ge 7, 40, 0, 44), (40, .aload_n 1, 41, 0, 0), (41, .goto 4, 44, 0, 45), (44, .aload_n 0, 45, 0, 0), (45, .areturn, 46, 0, 0)]
def MX10_nearer : zMI := (yX10_nearer, cX10_nearer, 4, (some (.object "ShadowWard$Region")), [(99999, CX10_nearer_0)], [])
theorem DX10_nearer_0 : CX10_nearer_0.all (zchk cX10_nearer) = true := by decide +kernel
theorem OX10_nearer : zMOK MX10_nearer := by
  intro q hq e he
  simp only [MX10_nearer, zFt, List.mem_cons, List.not_mem_nil, or_false] at hq
  rcases hq with rfl
  · exact List.all_eq_true.mp DX10_nearer_0 e he
theorem KX10_nearer : zMK MX10_nearer := ⟨OX10_nearer, by decide +kernel, z_in (List.mem_of_getElem? (i := 290) (by decide +kernel)), z_in (List.mem_of_getElem? (i := 1) (by decide +kernel)), by decide +kernel, by decide +kernel⟩
theorem SX10_nearer : Jvm.Cond.static yX10_nearer ∈ lw_tbl := z_in (List.mem_of_getElem? (i := 289) (by decide +kernel))
end
section
def CX11_init_0 : List zEn := [(0, .aload_n 0, 1, 0, 0), (1, .invokespecial 1, 4, 0, 213), (4, .aload_n 0, 5, 0, 0), (5, .sipush 8192, 8, 8192, 0), (8, .newarray .byte, 10, 0, 0), (10, .putfield 7, 13, 0, 126), (13, .aload_n 0, 14, 0, 0), (14, .sipush 1024, 17, 1024, 0), (17, .newarray .int, 19, 0, 0), (19, .putfield 13, 22, 0, 127), (22, .aload_n 0, 23, 0, 0), (23, .bipush 40, 25, 40, 0), (25, .newarray .int, 27, 0, 0), (27, .putfield 17, 30, 0, 128), (30, .aload_n 0, 31, 0, 0), (31, .bipush 40, 33, 40, 0), (33, .newarray .int, 35, 0, 0), (35, .putfield 20, 38, 0, 129), (38, .aload_n 0, 39, 0, 0), (39, .bipush 24, 41, 24, 0), (41, .newarray .int, 43, 0, 0), (43, .putfield 23, 46, 0, 131), (46, .aload_n 0, 47, 0, 0), (47, .bipush 24, 49, 24, 0), (49, .newarray .int, 51, 0, 0), (51, .putfield 26, 54, 0, 132), (54, .aload_n 0, 55, 0, 0), (55, .bipush 24, 57, 24, 0), (57, .newarray .int, 59, 0, 0), (59, .putfield 29, 62, 0, 133)]
def CX11_init_1 : List zEn := [(62, .aload_n 0, 63, 0, 0), (63, .bipush 96, 65, 96, 0), (65, .newarray .int, 67, 0, 0), (67, .putfield 32, 70, 0, 134), (70, .aload_n 0, 71, 0, 0), (71, .bipush 96, 73, 96, 0), (73, .newarray .int, 75, 0, 0), (75, .putfield 35, 78, 0, 135), (78, .aload_n 0, 79, 0, 0), (79, .bipush 96, 81, 96, 0), (81, .newarray .boolean, 83, 0, 0), (83, .putfield 38, 86, 0, 136), (86, .aload_n 0, 87, 0, 0), (87, .sipush 520, 90, 520, 0), (90, .newarray .int, 92, 0, 0), (92, .putfield 42, 95, 0, 138), (95, .aload_n 0, 96, 0, 0), (96, .sipush 520, 99, 520, 0), (99, .newarray .int, 101, 0, 0), (101, .putfield 45, 104, 0, 139), (104, .aload_n 0, 105, 0, 0), (105, .sipush 520, 108, 520, 0), (108, .newarray .int, 110, 0, 0), (110, .putfield 48, 113, 0, 140), (113, .aload_n 0, 114, 0, 0), (114, .sipush 520, 117, 520, 0), (117, .newarray .int, 119, 0, 0), (119, .putfield 51, 122, 0, 141), (122, .aload_n 0, 123, 0, 0), (123, .sipush 520, 126, 520, 0)]
def CX11_init_2 : List zEn := [(126, .newarray .int, 128, 0, 0), (128, .putfield 54, 131, 0, 142), (131, .aload_n 0, 132, 0, 0), (132, .sipush 520, 135, 520, 0), (135, .newarray .int, 137, 0, 0), (137, .putfield 57, 140, 0, 143), (140, .aload_n 0, 141, 0, 0), (141, .sipush 520, 144, 520, 0), (144, .newarray .int, 146, 0, 0), (146, .putfield 60, 149, 0, 144), (149, .aload_n 0, 150, 0, 0), (150, .sipush 520, 153, 520, 0), (153, .newarray .int, 155, 0, 0), (155, .putfield 63, 158, 0, 145), (158, .aload_n 0, 159, 0, 0), (159, .sipush 520, 162, 520, 0), (162, .newarray .int, 164, 0, 0), (164, .putfield 66, 167, 0, 147), (167, .aload_n 0, 168, 0, 0), (168, .sipush 5300, 171, 5300, 0), (171, .newarray .int, 173, 0, 0), (173, .putfield 69, 176, 0, 149), (176, .aload_n 0, 177, 0, 0), (177, .sipush 520, 180, 520, 0), (180, .newarray .boolean, 182, 0, 0), (182, .putfield 72, 185, 0, 151), (185, .aload_n 0, 186, 0, 0), (186, .sipush 8192, 189, 8192, 0), (189, .newarray .byte, 191, 0, 0), (191, .putfield 75, 194, 0, 152)]
def CX11_init_3 : List zEn := [(194, .aload_n 0, 195, 0, 0), (195, .iload_n 1, 196, 0, 0), (196, .sipush 1024, 199, 1024, 0), (199, .if_icmp .lt 21, 202, 0, 220), (202, .iload_n 1, 203, 0, 0), (203, .sipush 8192, 206, 8192, 0), (206, .if_icmp .gt 14, 209, 0, 220), (209, .iload_n 1, 210, 0, 0), (210, .bipush 64, 212, 64, 0), (212, .irem, 213, 0, 0), (213, .ifCond .ne 7, 216, 0, 220), (216, .iload_n 1, 217, 0, 0), (217, .goto 6, 220, 0, 223), (220, .sipush 4096, 223, 4096, 0), (223, .putfield 78, 226, 0, 124), (226, .aload_n 0, 227, 0, 0), (227, .iload_n 2, 228, 0, 0), (228, .ifCond .lt 15, 231, 0, 243), (231, .iload_n 2, 232, 0, 0), (232, .aload_n 0, 233, 0, 0), (233, .getfield 78, 236, 0, 124), (236, .if_icmp .gt 7, 239, 0, 243), (239, .iload_n 2, 240, 0, 0), (240, .goto 6, 243, 0, 246), (243, .sipush 1024, 246, 1024, 0), (246, .putfield 82, 249, 0, 125), (249, .iconst 0, 250, 0, 0), (250, .istore_n 3, 251, 0, 0), (251, .iload_n 3, 252, 0, 0), (252, .aload_n 0, 253, 0, 0)]
def CX11_init_4 : List zEn := [(253, .getfield 78, 256, 0, 124), (256, .bipush 8, 258, 8, 0), (258, .idiv, 259, 0, 0), (259, .if_icmp .ge 55, 262, 0, 314), (262, .aload_n 0, 263, 0, 0), (263, .getfield 13, 266, 0, 127), (266, .iload_n 3, 267, 0, 0), (267, .bipush 8, 269, 8, 0), (269, .iload_n 3, 270, 0, 0), (270, .imul, 271, 0, 0), (271, .aload_n 0, 272, 0, 0), (272, .getfield 78, 275, 0, 124), (275, .bipush 8, 277, 8, 0), (277, .idiv, 278, 0, 0), (278, .if_icmp .ge 9, 281, 0, 287), (281, .sipush 249, 284, 249, 0), (284, .goto 23, 287, 0, 307), (287, .bipush 8, 289, 8, 0), (289, .iload_n 3, 290, 0, 0), (290, .imul, 291, 0, 0), (291, .aload_n 0, 292, 0, 0), (292, .getfield 78, 295, 0, 124), (295, .iconst 4, 296, 4, 0), (296, .idiv, 297, 0, 0), (297, .if_icmp .ge 7, 300, 0, 304), (300, .iconst 0, 301, 0, 0), (301, .goto 6, 304, 0, 307), (304, .sipush 250, 307, 250, 0), (307, .iastore, 308, 0, 0), (308, .iinc 3 1, 311, 1, 0)]
def CX11_init_5 : List zEn := [(311, .goto (-60), 314, 0, 251), (314, .return_, 315, 0, 0)]
def MX11_init : zMI := (yX11_init, cX11_init, 4, none, [(62, CX11_init_0), (126, CX11_init_1), (194, CX11_init_2), (253, CX11_init_3), (311, CX11_init_4), (99999, CX11_init_5)], [])
theorem DX11_init_0 : CX11_init_0.all (zchk cX11_init) = true := by decide +kernel
theorem DX11_init_1 : CX11_init_1.all (zchk cX11_init) = true := by decide +kernel
theorem DX11_init_2 : CX11_init_2.all (zchk cX11_init) = true := by decide +kernel
theorem DX11_init_3 : CX11_init_3.all (zchk cX11_init) = true := by decide +kernel
theorem DX11_init_4 : CX11_init_4.all (zchk cX11_init) = true := by decide +kernel
theorem DX11_init_5 : CX11_init_5.all (zchk cX11_init) = true := by decide +kernel
theorem OX11_init : zMOK MX11_init := by
  intro q hq e he
  simp only [MX11_init, zFt, List.mem_cons, List.not_mem_nil, or_false] at hq
  rcases hq with rfl | rfl | rfl | rfl | rfl | rfl
  · exact List.all_eq_true.mp DX11_init_0 e he
  · exact List.all_eq_true.mp DX11_init_1 e he
  · exact List.all_eq_true.mp DX11_init_2 e he
  · exact List.all_eq_true.mp DX11_init_3 e he
  · exact List.all_eq_true.mp DX11_init_4 e he
  · exact List.all_eq_true.mp DX11_init_5 e he
theorem KX11_init : zMK MX11_init := ⟨OX11_init, by decide +kernel, z_in (List.mem_of_getElem? (i := 1066) (by decide +kernel)), z_in (List.mem_of_getElem? (i := 11) (by decide +kernel)), by decide +kernel, by decide +kernel⟩
theorem IX11_init : Jvm.Cond.instanceMethod yX11_init ∈ lw_tbl := z_in (List.mem_of_getElem? (i := 1065) (by decide +kernel))
def CX11_thrown_0 : List zEn := [(0, .aload_n 0, 1, 0, 0), (1, .getfield 85, 4, 0, 123), (4, .ireturn, 5, 0, 0)]
def MX11_thrown : zMI := (yX11_thrown, cX11_thrown, 1, (some .int), [(99999, CX11_thrown_0)], [])
theorem DX11_thrown_0 : CX11_thrown_0.all (zchk cX11_thrown) = true := by decide +kernel
theorem OX11_thrown : zMOK MX11_thrown := by
  intro q hq e he
  simp only [MX11_thrown, zFt, List.mem_cons, List.not_mem_nil, or_false] at hq
  rcases hq with rfl
  · exact List.all_eq_true.mp DX11_thrown_0 e he
theorem KX11_thrown : zMK MX11_thrown := ⟨OX11_thrown, by decide +kernel, z_in (List.mem_of_getElem? (i := 1163) (by decide +kernel)), z_in (List.mem_of_getElem? (i := 11) (by decide +kernel)), by decide +kernel, by decide +kernel⟩
theorem IX11_thrown : Jvm.Cond.instanceMethod yX11_thrown ∈ lw_tbl := z_in (List.mem_of_getElem? (i := 1161) (by decide +kernel))
theorem VX11_thrown : Jvm.Cond.selects "ShadowWardModel" yX11_thrown yX11_thrown ∈ lw_tbl := z_in (List.mem_of_getElem? (i := 1162) (by decide +kernel))
def CX11_refuses_0 : List zEn := [(0, .aload_n 0, 1, 0, 0), (1, .iload_n 1, 2, 0, 0), (2, .putfield 85, 5, 0, 123), (5, .iload_n 1, 6, 0, 0), (6, .ifCond .eq 7, 9, 0, 13), (9, .iconst 1, 10, 1, 0), (10, .goto 4, 13, 0, 14), (13, .iconst 0, 14, 0, 0), (14, .ireturn, 15, 0, 0)]
def MX11_refuses : zMI := (yX11_refuses, cX11_refuses, 2, (some .boolean), [(99999, CX11_refuses_0)], [])
theorem DX11_refuses_0 : CX11_refuses_0.all (zchk cX11_refuses) = true := by decide +kernel
theorem OX11_refuses : zMOK MX11_refuses := by
  intro q hq e he
  simp only [MX11_refuses, zFt, List.mem_cons, List.not_mem_nil, or_false] at hq
  rcases hq with rfl
  · exact List.all_eq_true.mp DX11_refuses_0 e he
theorem KX11_refuses : zMK MX11_refuses := ⟨OX11_refuses, by decide +kernel, z_in (List.mem_of_getElem? (i := 1171) (by decide +kernel)), z_in (List.mem_of_getElem? (i := 11) (by decide +kernel)), by decide +kernel, by decide +kernel⟩
theorem IX11_refuses : Jvm.Cond.instanceMethod yX11_refuses ∈ lw_tbl := z_in (List.mem_of_getElem? (i := 1170) (by decide +kernel))
theorem VX11_refuses : Jvm.Cond.selects "ShadowWardModel" yX11_refuses yX11_refuses ∈ lw_tbl := List.mem_append_left _ (List.mem_of_getElem? (i := 24) (by decide +kernel))
def CX11_paint_0 : List zEn := [(0, .iload_n 1, 1, 0, 0), (1, .bipush 8, 3, 8, 0), (3, .idiv, 4, 0, 0), (4, .istore 4, 6, 0, 0), (6, .iload 4, 8, 0, 0), (8, .iload_n 2, 9, 0, 0), (9, .bipush 7, 11, 7, 0), (11, .iadd, 12, 0, 0), (12, .bipush 8, 14, 8, 0), (14, .idiv, 15, 0, 0), (15, .if_icmp .ge 17, 18, 0, 32), (18, .aload_n 0, 19, 0, 0), (19, .getfield 13, 22, 0, 127), (22, .iload 4, 24, 0, 0), (24, .iload_n 3, 25, 0, 0), (25, .iastore, 26, 0, 0), (26, .iinc 4 1, 29, 1, 0), (29, .goto (-23), 32, 0, 6), (32, .return_, 33, 0, 0)]
def MX11_paint : zMI := (yX11_paint, cX11_paint, 5, none, [(99999, CX11_paint_0)], [])
theorem DX11_paint_0 : CX11_paint_0.all (zchk cX11_paint) = true := by decide +kernel
theorem OX11_paint : zMOK MX11_paint := by
  intro q hq e he
  simp only [MX11_paint, zFt, List.mem_cons, List.not_mem_nil, or_false] at hq
  rcases hq with rfl
  · exact List.all_eq_true.mp DX11_paint_0 e he
theorem KX11_paint : zMK MX11_paint := ⟨OX11_paint, by decide +kernel, z_in (List.mem_of_getElem? (i := 1189) (by decide +kernel)), z_in (List.mem_of_getElem? (i := 11) (by decide +kernel)), by decide +kernel, by decide +kernel⟩
theorem IX11_paint : Jvm.Cond.instanceMethod yX11_paint ∈ lw_tbl := z_in (List.mem_of_getElem? (i := 1188) (by decide +kernel))
theorem VX11_paint : Jvm.Cond.selects "ShadowWardModel" yX11_paint yX11_paint ∈ lw_tbl := List.mem_append_left _ (List.mem_of_getElem? (i := 26) (by decide +kernel))
def CX11_opens_0 : List zEn := [(0, .iconst 0, 1, 0, 0), (1, .istore_n 3, 2, 0, 0), (2, .iload_n 3, 3, 0, 0), (3, .iload_n 2, 4, 0, 0), (4, .if_icmp .ge 35, 7, 0, 39), (7, .aload_n 0, 8, 0, 0), (8, .getfield 13, 11, 0, 127), (11, .iload_n 1, 12, 0, 0), (12, .iload_n 3, 13, 0, 0), (13, .iadd, 14, 0, 0), (14, .bipush 8, 16, 8, 0), (16, .idiv, 17, 0, 0), (17, .iload_n 2, 18, 0, 0), (18, .iload_n 3, 19, 0, 0), (19, .isub, 20, 0, 0), (20, .bipush 8, 22, 8, 0), (22, .if_icmp .lt 7, 25, 0, 29), (25, .iconst 0, 26, 0, 0), (26, .goto 6, 29, 0, 32), (29, .iload_n 2, 30, 0, 0), (30, .iload_n 3, 31, 0, 0), (31, .isub, 32, 0, 0), (32, .iastore, 33, 0, 0), (33, .iinc 3 8, 36, 8, 0), (36, .goto (-34), 39, 0, 2), (39, .return_, 40, 0, 0)]
def MX11_opens : zMI := (yX11_opens, cX11_opens, 4, none, [(99999, CX11_opens_0)], [])
theorem DX11_opens_0 : CX11_opens_0.all (zchk cX11_opens) = true := by decide +kernel
theorem OX11_opens : zMOK MX11_opens := by
  intro q hq e he
  simp only [MX11_opens, zFt, List.mem_cons, List.not_mem_nil, or_false] at hq
  rcases hq with rfl
  · exact List.all_eq_true.mp DX11_opens_0 e he
theorem KX11_opens : zMK MX11_opens := ⟨OX11_opens, by decide +kernel, z_in (List.mem_of_getElem? (i := 1175) (by decide +kernel)), z_in (List.mem_of_getElem? (i := 11) (by decide +kernel)), by decide +kernel, by decide +kernel⟩
theorem IX11_opens : Jvm.Cond.instanceMethod yX11_opens ∈ lw_tbl := z_in (List.mem_of_getElem? (i := 1174) (by decide +kernel))
theorem VX11_opens : Jvm.Cond.selects "ShadowWardModel" yX11_opens yX11_opens ∈ lw_tbl := List.mem_append_left _ (List.mem_of_getElem? (i := 25) (by decide +kernel))
def CX11_global_0 : List zEn := [(0, .aload_n 0, 1, 0, 0), (1, .iload_n 1, 2, 0, 0), (2, .iconst 1, 3, 1, 0), (3, .if_icmp .lt 10, 6, 0, 13), (6, .iload_n 1, 7, 0, 0), (7, .sipush 512, 10, 512, 0), (10, .if_icmp .le 7, 13, 0, 17), (13, .iconst 1, 14, 1, 0), (14, .goto 4, 17, 0, 18), (17, .iconst 0, 18, 0, 0), (18, .invokevirtual 88, 21, 0, 216), (21, .ifCond .eq 5, 24, 0, 26), (24, .iconst 0, 25, 0, 0), (25, .ireturn, 26, 0, 0), (26, .iconst 0, 27, 0, 0), (27, .istore_n 2, 28, 0, 0), (28, .aload_n 0, 29, 0, 0), (29, .getfield 92, 32, 0, 130), (32, .ifCond .le 39, 35, 0, 71), (35, .aload_n 0, 36, 0, 0), (36, .getfield 17, 39, 0, 128), (39, .aload_n 0, 40, 0, 0), (40, .getfield 92, 43, 0, 130), (43, .iconst 1, 44, 1, 0), (44, .isub, 45, 0, 0), (45, .iaload, 46, 0, 0), (46, .aload_n 0, 47, 0, 0), (47, .getfield 20, 50, 0, 129), (50, .aload_n 0, 51, 0, 0), (51, .getfield 92, 54, 0, 130)]
def CX11_global_1 : List zEn := [(54, .iconst 1, 55, 1, 0), (55, .isub, 56, 0, 0), (56, .iaload, 57, 0, 0), (57, .iadd, 58, 0, 0), (58, .bipush 32, 60, 32, 0), (60, .iadd, 61, 0, 0), (61, .bipush 31, 63, 31, 0), (63, .iadd, 64, 0, 0), (64, .bipush 32, 66, 32, 0), (66, .idiv, 67, 0, 0), (67, .bipush 32, 69, 32, 0), (69, .imul, 70, 0, 0), (70, .istore_n 2, 71, 0, 0), (71, .iload_n 2, 72, 0, 0), (72, .iload_n 1, 73, 0, 0), (73, .iadd, 74, 0, 0), (74, .bipush 32, 76, 32, 0), (76, .iadd, 77, 0, 0), (77, .aload_n 0, 78, 0, 0), (78, .getfield 78, 81, 0, 124), (81, .bipush 8, 83, 8, 0), (83, .idiv, 84, 0, 0), (84, .if_icmp .le 5, 87, 0, 89), (87, .iconst (-1), 88, (-1), 0), (88, .ireturn, 89, 0, 0), (89, .aload_n 0, 90, 0, 0), (90, .getfield 17, 93, 0, 128), (93, .aload_n 0, 94, 0, 0), (94, .getfield 92, 97, 0, 130), (97, .iload_n 2, 98, 0, 0)]
def CX11_global_2 : List zEn := [(98, .iastore, 99, 0, 0), (99, .aload_n 0, 100, 0, 0), (100, .getfield 20, 103, 0, 129), (103, .aload_n 0, 104, 0, 0), (104, .dup, 105, 0, 0), (105, .getfield 92, 108, 0, 130), (108, .dup_x1, 109, 0, 0), (109, .iconst 1, 110, 1, 0), (110, .iadd, 111, 0, 0), (111, .putfield 92, 114, 0, 130), (114, .iload_n 1, 115, 0, 0), (115, .iastore, 116, 0, 0), (116, .aload_n 0, 117, 0, 0), (117, .iload_n 2, 118, 0, 0), (118, .iload_n 1, 119, 0, 0), (119, .invokevirtual 95, 122, 0, 217), (122, .iload_n 2, 123, 0, 0), (123, .ireturn, 124, 0, 0)]
def MX11_global : zMI := (yX11_global, cX11_global, 3, (some .int), [(54, CX11_global_0), (98, CX11_global_1), (99999, CX11_global_2)], [])
theorem DX11_global_0 : CX11_global_0.all (zchk cX11_global) = true := by decide +kernel
theorem DX11_global_1 : CX11_global_1.all (zchk cX11_global) = true := by decide +kernel
theorem DX11_global_2 : CX11_global_2.all (zchk cX11_global) = true := by decide +kernel
theorem OX11_global : zMOK MX11_global := by
  intro q hq e he
  simp only [MX11_global, zFt, List.mem_cons, List.not_mem_nil, or_false] at hq
  rcases hq with rfl | rfl | rfl
  · exact List.all_eq_true.mp DX11_global_0 e he
  · exact List.all_eq_true.mp DX11_global_1 e he
  · exact List.all_eq_true.mp DX11_global_2 e he
theorem KX11_global : zMK MX11_global := ⟨OX11_global, by decide +kernel, z_in (List.mem_of_getElem? (i := 1167) (by decide +kernel)), z_in (List.mem_of_getElem? (i := 11) (by decide +kernel)), by decide +kernel, by decide +kernel⟩
theorem IX11_global : Jvm.Cond.instanceMethod yX11_global ∈ lw_tbl := z_in (List.mem_of_getElem? (i := 1165) (by decide +kernel))
theorem VX11_global : Jvm.Cond.selects "ShadowWardModel" yX11_global yX11_global ∈ lw_tbl := z_in (List.mem_of_getElem? (i := 1166) (by decide +kernel))
def CX11_padded_0 : List zEn := [(0, .iload_n 0, 1, 0, 0), (1, .bipush 31, 3, 31, 0), (3, .iadd, 4, 0, 0), (4, .bipush 32, 6, 32, 0), (6, .idiv, 7, 0, 0), (7, .bipush 32, 9, 32, 0), (9, .imul, 10, 0, 0), (10, .bipush 32, 12, 32, 0), (12, .iadd, 13, 0, 0), (13, .ireturn, 14, 0, 0)]
def MX11_padded : zMI := (yX11_padded, cX11_padded, 1, (some .int), [(99999, CX11_padded_0)], [])
theorem DX11_padded_0 : CX11_padded_0.all (zchk cX11_padded) = true := by decide +kernel
theorem OX11_padded : zMOK MX11_padded := by
  intro q hq e he
  simp only [MX11_padded, zFt, List.mem_cons, List.not_mem_nil, or_false] at hq
  rcases hq with rfl
  · exact List.all_eq_true.mp DX11_padded_0 e he
theorem KX11_padded : zMK MX11_padded := ⟨OX11_padded, by decide +kernel, z_in (List.mem_of_getElem? (i := 1185) (by decide +kernel)), z_in (List.mem_of_getElem? (i := 11) (by decide +kernel)), by decide +kernel, by decide +kernel⟩
theorem SX11_padded : Jvm.Cond.static yX11_padded ∈ lw_tbl := z_in (List.mem_of_getElem? (i := 1184) (by decide +kernel))
def CX11_isSize_0 : List zEn := [(0, .iload_n 0, 1, 0, 0), (1, .ifCond .lt 14, 4, 0, 15), (4, .iload_n 0, 5, 0, 0), (5, .sipush 128, 8, 128, 0), (8, .if_icmp .gt 7, 11, 0, 15), (11, .iconst 1, 12, 1, 0), (12, .goto 4, 15, 0, 16), (15, .iconst 0, 16, 0, 0), (16, .ireturn, 17, 0, 0)]
def MX11_isSize : zMI := (yX11_isSize, cX11_isSize, 1, (some .boolean), [(99999, CX11_isSize_0)], [])
theorem DX11_isSize_0 : CX11_isSize_0.all (zchk cX11_isSize) = true := by decide +kernel
theorem OX11_isSize : zMOK MX11_isSize := by
  intro q hq e he
  simp only [MX11_isSize, zFt, List.mem_cons, List.not_mem_nil, or_false] at hq
  rcases hq with rfl
  · exact List.all_eq_true.mp DX11_isSize_0 e he
theorem KX11_isSize : zMK MX11_isSize := ⟨OX11_isSize, by decide +kernel, z_in (List.mem_of_getElem? (i := 1182) (by decide +kernel)), z_in (List.mem_of_getElem? (i := 11) (by decide +kernel)), by decide +kernel, by decide +kernel⟩
theorem SX11_isSize : Jvm.Cond.static yX11_isSize ∈ lw_tbl := z_in (List.mem_of_getElem? (i := 1181) (by decide +kernel))
def CX11_enter_0 : List zEn := [(0, .aload_n 0, 1, 0, 0), (1, .iload_n 1, 2, 0, 0), (2, .invokestatic 99, 5, 0, 219), (5, .ifCond .eq 36, 8, 0, 41), (8, .iload_n 2, 9, 0, 0), (9, .invokestatic 99, 12, 0, 219), (12, .ifCond .eq 29, 15, 0, 41), (15, .iload_n 3, 16, 0, 0), (16, .invokestatic 99, 19, 0, 219), (19, .ifCond .eq 22, 22, 0, 41), (22, .iload 4, 24, 0, 0), (24, .invokestatic 99, 27, 0, 219), (27, .ifCond .eq 14, 30, 0, 41), (30, .iload_n 1, 31, 0, 0), (31, .iload_n 2, 32, 0, 0), (32, .ior, 33, 0, 0), (33, .iload_n 3, 34, 0, 0), (34, .ior, 35, 0, 0), (35, .iload 4, 37, 0, 0), (37, .ior, 38, 0, 0), (38, .ifCond .ne 7, 41, 0, 45), (41, .iconst 1, 42, 1, 0), (42, .goto 4, 45, 0, 46), (45, .iconst 0, 46, 0, 0), (46, .invokevirtual 88, 49, 0, 216), (49, .ifCond .eq 5, 52, 0, 54), (52, .iconst 0, 53, 0, 0), (53, .ireturn, 54, 0, 0), (54, .aload_n 0, 55, 0, 0), (55, .getfield 102, 58, 0, 137)]
def CX11_enter_1 : List zEn := [(58, .ifCond .ne 12, 61, 0, 70), (61, .aload_n 0, 62, 0, 0), (62, .getfield 78, 65, 0, 124), (65, .iconst 4, 66, 4, 0), (66, .idiv, 67, 0, 0), (67, .goto 14, 70, 0, 81), (70, .aload_n 0, 71, 0, 0), (71, .getfield 23, 74, 0, 131), (74, .aload_n 0, 75, 0, 0), (75, .getfield 102, 78, 0, 137), (78, .iconst 1, 79, 1, 0), (79, .isub, 80, 0, 0), (80, .iaload, 81, 0, 0), (81, .istore 5, 83, 0, 0), (83, .iload 5, 85, 0, 0), (85, .bipush 32, 87, 32, 0), (87, .isub, 88, 0, 0), (88, .istore 6, 90, 0, 0), (90, .iconst 0, 91, 0, 0), (91, .istore 7, 93, 0, 0), (93, .iload 7, 95, 0, 0), (95, .iconst 4, 96, 4, 0), (96, .if_icmp .ge 61, 99, 0, 157), (99, .iload 7, 101, 0, 0), (101, .ifCond .ne 7, 104, 0, 108), (104, .iload_n 1, 105, 0, 0), (105, .goto 25, 108, 0, 130), (108, .iload 7, 110, 0, 0), (110, .iconst 1, 111, 1, 0), (111, .if_icmp .ne 7, 114, 0, 118)]
def CX11_enter_2 : List zEn := [(114, .iload_n 2, 115, 0, 0), (115, .goto 15, 118, 0, 130), (118, .iload 7, 120, 0, 0), (120, .iconst 2, 121, 2, 0), (121, .if_icmp .ne 7, 124, 0, 128), (124, .iload_n 3, 125, 0, 0), (125, .goto 5, 128, 0, 130), (128, .iload 4, 130, 0, 0), (130, .istore 8, 132, 0, 0), (132, .iload 6, 134, 0, 0), (134, .iload 8, 136, 0, 0), (136, .ifCond .ne 7, 139, 0, 143), (139, .iconst 0, 140, 0, 0), (140, .goto 8, 143, 0, 148), (143, .iload 8, 145, 0, 0), (145, .invokestatic 105, 148, 0, 220), (148, .isub, 149, 0, 0), (149, .istore 6, 151, 0, 0), (151, .iinc 7 1, 154, 1, 0), (154, .goto (-61), 157, 0, 93), (157, .iload 6, 159, 0, 0), (159, .aload_n 0, 160, 0, 0), (160, .getfield 78, 163, 0, 124), (163, .bipush 8, 165, 8, 0), (165, .idiv, 166, 0, 0), (166, .if_icmp .ge 5, 169, 0, 171), (169, .iconst (-1), 170, (-1), 0), (170, .ireturn, 171, 0, 0), (171, .aload_n 0, 172, 0, 0), (172, .getfield 23, 175, 0, 131)]
def CX11_enter_3 : List zEn := [(175, .aload_n 0, 176, 0, 0), (176, .getfield 102, 179, 0, 137), (179, .iload 6, 181, 0, 0), (181, .iastore, 182, 0, 0), (182, .aload_n 0, 183, 0, 0), (183, .getfield 26, 186, 0, 132), (186, .aload_n 0, 187, 0, 0), (187, .getfield 102, 190, 0, 137), (190, .iload 5, 192, 0, 0), (192, .iastore, 193, 0, 0), (193, .aload_n 0, 194, 0, 0), (194, .iload 6, 196, 0, 0), (196, .iload 6, 198, 0, 0), (198, .bipush 32, 200, 32, 0), (200, .iadd, 201, 0, 0), (201, .sipush 241, 204, 241, 0), (204, .invokevirtual 109, 207, 0, 221), (207, .iconst 0, 208, 0, 0), (208, .istore 7, 210, 0, 0), (210, .iload 6, 212, 0, 0), (212, .bipush 32, 214, 32, 0), (214, .iadd, 215, 0, 0), (215, .istore 8, 217, 0, 0), (217, .iconst 0, 218, 0, 0), (218, .istore 9, 220, 0, 0), (220, .iload 9, 222, 0, 0), (222, .iconst 4, 223, 4, 0), (223, .if_icmp .ge 144, 226, 0, 367), (226, .iload 9, 228, 0, 0), (228, .ifCond .ne 7, 231, 0, 235)]
def CX11_enter_4 : List zEn := [(231, .iload_n 1, 232, 0, 0), (232, .goto 25, 235, 0, 257), (235, .iload 9, 237, 0, 0), (237, .iconst 1, 238, 1, 0), (238, .if_icmp .ne 7, 241, 0, 245), (241, .iload_n 2, 242, 0, 0), (242, .goto 15, 245, 0, 257), (245, .iload 9, 247, 0, 0), (247, .iconst 2, 248, 2, 0), (248, .if_icmp .ne 7, 251, 0, 255), (251, .iload_n 3, 252, 0, 0), (252, .goto 5, 255, 0, 257), (255, .iload 4, 257, 0, 0), (257, .istore 10, 259, 0, 0), (259, .iload 10, 261, 0, 0), (261, .ifCond .ne 6, 264, 0, 267), (264, .goto 97, 267, 0, 361), (267, .iconst 4, 268, 4, 0), (268, .aload_n 0, 269, 0, 0), (269, .getfield 102, 272, 0, 137), (272, .imul, 273, 0, 0), (273, .iload 7, 275, 0, 0), (275, .iinc 7 1, 278, 1, 0), (278, .iadd, 279, 0, 0), (279, .istore 11, 281, 0, 0), (281, .aload_n 0, 282, 0, 0), (282, .getfield 32, 285, 0, 134), (285, .iload 11, 287, 0, 0), (287, .iload 8, 289, 0, 0), (289, .iastore, 290, 0, 0)]
def CX11_enter_5 : List zEn := [(290, .aload_n 0, 291, 0, 0), (291, .getfield 35, 294, 0, 135), (294, .iload 11, 296, 0, 0), (296, .iload 10, 298, 0, 0), (298, .iastore, 299, 0, 0), (299, .aload_n 0, 300, 0, 0), (300, .getfield 38, 303, 0, 136), (303, .iload 11, 305, 0, 0), (305, .iconst 0, 306, 0, 0), (306, .bastore, 307, 0, 0), (307, .aload_n 0, 308, 0, 0), (308, .iload 8, 310, 0, 0), (310, .iload 8, 312, 0, 0), (312, .iload 10, 314, 0, 0), (314, .invokestatic 105, 317, 0, 220), (317, .iadd, 318, 0, 0), (318, .iload 8, 320, 0, 0), (320, .iload 10, 322, 0, 0), (322, .invokestatic 105, 325, 0, 220), (325, .iadd, 326, 0, 0), (326, .iload 5, 328, 0, 0), (328, .if_icmp .ne 9, 331, 0, 337), (331, .sipush 243, 334, 243, 0), (334, .goto 6, 337, 0, 340), (337, .sipush 242, 340, 242, 0), (340, .invokevirtual 109, 343, 0, 221), (343, .aload_n 0, 344, 0, 0), (344, .iload 8, 346, 0, 0), (346, .iload 10, 348, 0, 0), (348, .invokevirtual 95, 351, 0, 217)]
def CX11_enter_6 : List zEn := [(351, .iload 8, 353, 0, 0), (353, .iload 10, 355, 0, 0), (355, .invokestatic 105, 358, 0, 220), (358, .iadd, 359, 0, 0), (359, .istore 8, 361, 0, 0), (361, .iinc 9 1, 364, 1, 0), (364, .goto (-144), 367, 0, 220), (367, .aload_n 0, 368, 0, 0), (368, .getfield 29, 371, 0, 133), (371, .aload_n 0, 372, 0, 0), (372, .dup, 373, 0, 0), (373, .getfield 102, 376, 0, 137), (376, .dup_x1, 377, 0, 0), (377, .iconst 1, 378, 1, 0), (378, .iadd, 379, 0, 0), (379, .putfield 102, 382, 0, 137), (382, .iload 7, 384, 0, 0), (384, .iastore, 385, 0, 0), (385, .iload 6, 387, 0, 0), (387, .ireturn, 388, 0, 0)]
def MX11_enter : zMI := (yX11_enter, cX11_enter, 12, (some .int), [(58, CX11_enter_0), (114, CX11_enter_1), (175, CX11_enter_2), (231, CX11_enter_3), (290, CX11_enter_4), (351, CX11_enter_5), (99999, CX11_enter_6)], [])
theorem DX11_enter_0 : CX11_enter_0.all (zchk cX11_enter) = true := by decide +kernel
theorem DX11_enter_1 : CX11_enter_1.all (zchk cX11_enter) = true := by decide +kernel
theorem DX11_enter_2 : CX11_enter_2.all (zchk cX11_enter) = true := by decide +kernel
theorem DX11_enter_3 : CX11_enter_3.all (zchk cX11_enter) = true := by decide +kernel
theorem DX11_enter_4 : CX11_enter_4.all (zchk cX11_enter) = true := by decide +kernel
theorem DX11_enter_5 : CX11_enter_5.all (zchk cX11_enter) = true := by decide +kernel
theorem DX11_enter_6 : CX11_enter_6.all (zchk cX11_enter) = true := by decide +kernel
theorem OX11_enter : zMOK MX11_enter := by
  intro q hq e he
  simp only [MX11_enter, zFt, List.mem_cons, List.not_mem_nil, or_false] at hq
  rcases hq with rfl | rfl | rfl | rfl | rfl | rfl | rfl
  · exact List.all_eq_true.mp DX11_enter_0 e he
  · exact List.all_eq_true.mp DX11_enter_1 e he
  · exact List.all_eq_true.mp DX11_enter_2 e he
  · exact List.all_eq_true.mp DX11_enter_3 e he
  · exact List.all_eq_true.mp DX11_enter_4 e he
  · exact List.all_eq_true.mp DX11_enter_5 e he
  · exact List.all_eq_true.mp DX11_enter_6 e he
theorem KX11_enter : zMK MX11_enter := ⟨OX11_enter, by decide +kernel, z_in (List.mem_of_getElem? (i := 1179) (by decide +kernel)), z_in (List.mem_of_getElem? (i := 11) (by decide +kernel)), by decide +kernel, by decide +kernel⟩
theorem IX11_enter : Jvm.Cond.instanceMethod yX11_enter ∈ lw_tbl := z_in (List.mem_of_getElem? (i := 1177) (by decide +kernel))
theorem VX11_enter : Jvm.Cond.selects "ShadowWardModel" yX11_enter yX11_enter ∈ lw_tbl := z_in (List.mem_of_getElem? (i := 1178) (by decide +kernel))
def CX11_leave_0 : List zEn := [(0, .aload_n 0, 1, 0, 0), (1, .aload_n 0, 2, 0, 0), (2, .getfield 102, 5, 0, 137), (5, .ifCond .ne 7, 8, 0, 12), (8, .iconst 1, 9, 1, 0), (9, .goto 4, 12, 0, 13), (12, .iconst 0, 13, 0, 0), (13, .invokevirtual 88, 16, 0, 216), (16, .ifCond .eq 5, 19, 0, 21), (19, .iconst 0, 20, 0, 0), (20, .ireturn, 21, 0, 0), (21, .aload_n 0, 22, 0, 0), (22, .dup, 23, 0, 0), (23, .getfield 102, 26, 0, 137), (26, .iconst 1, 27, 1, 0), (27, .isub, 28, 0, 0), (28, .putfield 102, 31, 0, 137), (31, .aload_n 0, 32, 0, 0), (32, .aload_n 0, 33, 0, 0), (33, .getfield 23, 36, 0, 131), (36, .aload_n 0, 37, 0, 0), (37, .getfield 102, 40, 0, 137), (40, .iaload, 41, 0, 0), (41, .aload_n 0, 42, 0, 0), (42, .getfield 26, 45, 0, 132), (45, .aload_n 0, 46, 0, 0), (46, .getfield 102, 49, 0, 137), (49, .iaload, 50, 0, 0), (50, .sipush 245, 53, 245, 0), (53, .invokevirtual 109, 56, 0, 221)]
def CX11_leave_1 : List zEn := [(56, .aload_n 0, 57, 0, 0), (57, .getfield 102, 60, 0, 137), (60, .ireturn, 61, 0, 0)]
def MX11_leave : zMI := (yX11_leave, cX11_leave, 1, (some .int), [(56, CX11_leave_0), (99999, CX11_leave_1)], [])
theorem DX11_leave_0 : CX11_leave_0.all (zchk cX11_leave) = true := by decide +kernel
theorem DX11_leave_1 : CX11_leave_1.all (zchk cX11_leave) = true := by decide +kernel
theorem OX11_leave : zMOK MX11_leave := by
  intro q hq e he
  simp only [MX11_leave, zFt, List.mem_cons, List.not_mem_nil, or_false] at hq
  rcases hq with rfl | rfl
  · exact List.all_eq_true.mp DX11_leave_0 e he
  · exact List.all_eq_true.mp DX11_leave_1 e he
theorem KX11_leave : zMK MX11_leave := ⟨OX11_leave, by decide +kernel, z_in (List.mem_of_getElem? (i := 1193) (by decide +kernel)), z_in (List.mem_of_getElem? (i := 11) (by decide +kernel)), by decide +kernel, by decide +kernel⟩
theorem IX11_leave : Jvm.Cond.instanceMethod yX11_leave ∈ lw_tbl := z_in (List.mem_of_getElem? (i := 1191) (by decide +kernel))
theorem VX11_leave : Jvm.Cond.selects "ShadowWardModel" yX11_leave yX11_leave ∈ lw_tbl := z_in (List.mem_of_getElem? (i := 1192) (by decide +kernel))
def CX11_noVariable_0 : List zEn := [(0, .iload_n 1, 1, 0, 0), (1, .ifCond .lt 25, 4, 0, 26), (4, .iload_n 1, 5, 0, 0), (5, .aload_n 0, 6, 0, 0), (6, .getfield 102, 9, 0, 137), (9, .if_icmp .ge 17, 12, 0, 26), (12, .iload_n 2, 13, 0, 0), (13, .ifCond .lt 13, 16, 0, 26), (16, .iload_n 2, 17, 0, 0), (17, .aload_n 0, 18, 0, 0), (18, .getfield 29, 21, 0, 133), (21, .iload_n 1, 22, 0, 0), (22, .iaload, 23, 0, 0), (23, .if_icmp .lt 7, 26, 0, 30), (26, .iconst 1, 27, 1, 0), (27, .goto 4, 30, 0, 31), (30, .iconst 0, 31, 0, 0), (31, .ireturn, 32, 0, 0)]
def MX11_noVariable : zMI := (yX11_noVariable, cX11_noVariable, 3, (some .boolean), [(99999, CX11_noVariable_0)], [])
theorem DX11_noVariable_0 : CX11_noVariable_0.all (zchk cX11_noVariable) = true := by decide +kernel
theorem OX11_noVariable : zMOK MX11_noVariable := by
  intro q hq e he
  simp only [MX11_noVariable, zFt, List.mem_cons, List.not_mem_nil, or_false] at hq
  rcases hq with rfl
  · exact List.all_eq_true.mp DX11_noVariable_0 e he
theorem KX11_noVariable : zMK MX11_noVariable := ⟨OX11_noVariable, by decide +kernel, z_in (List.mem_of_getElem? (i := 1201) (by decide +kernel)), z_in (List.mem_of_getElem? (i := 11) (by decide +kernel)), by decide +kernel, by decide +kernel⟩
theorem IX11_noVariable : Jvm.Cond.instanceMethod yX11_noVariable ∈ lw_tbl := z_in (List.mem_of_getElem? (i := 1200) (by decide +kernel))
theorem VX11_noVariable : Jvm.Cond.selects "ShadowWardModel" yX11_noVariable yX11_noVariable ∈ lw_tbl := List.mem_append_left _ (List.mem_of_getElem? (i := 27) (by decide +kernel))
def CX11_scope_0 : List zEn := [(0, .aload_n 0, 1, 0, 0), (1, .aload_n 0, 2, 0, 0), (2, .iload_n 1, 3, 0, 0), (3, .iload_n 2, 4, 0, 0), (4, .invokevirtual 113, 7, 0, 224), (7, .ifCond .eq 7, 10, 0, 14), (10, .iconst 1, 11, 1, 0), (11, .goto 4, 14, 0, 15), (14, .iconst 0, 15, 0, 0), (15, .invokevirtual 88, 18, 0, 216), (18, .ifCond .eq 5, 21, 0, 23), (21, .iconst 0, 22, 0, 0), (22, .ireturn, 23, 0, 0), (23, .iconst 4, 24, 4, 0), (24, .iload_n 1, 25, 0, 0), (25, .imul, 26, 0, 0), (26, .iload_n 2, 27, 0, 0), (27, .iadd, 28, 0, 0), (28, .istore 4, 30, 0, 0), (30, .aload_n 0, 31, 0, 0), (31, .getfield 38, 34, 0, 136), (34, .iload 4, 36, 0, 0), (36, .baload, 37, 0, 0), (37, .iload_n 3, 38, 0, 0), (38, .if_icmp .eq 5, 41, 0, 43), (41, .iconst 0, 42, 0, 0), (42, .ireturn, 43, 0, 0), (43, .aload_n 0, 44, 0, 0), (44, .getfield 38, 47, 0, 136), (47, .iload 4, 49, 0, 0)]
def CX11_scope_1 : List zEn := [(49, .iload_n 3, 50, 0, 0), (50, .ifCond .ne 7, 53, 0, 57), (53, .iconst 1, 54, 1, 0), (54, .goto 4, 57, 0, 58), (57, .iconst 0, 58, 0, 0), (58, .bastore, 59, 0, 0), (59, .iload_n 3, 60, 0, 0), (60, .ifCond .eq 24, 63, 0, 84), (63, .aload_n 0, 64, 0, 0), (64, .aload_n 0, 65, 0, 0), (65, .getfield 32, 68, 0, 134), (68, .iload 4, 70, 0, 0), (70, .iaload, 71, 0, 0), (71, .aload_n 0, 72, 0, 0), (72, .getfield 35, 75, 0, 135), (75, .iload 4, 77, 0, 0), (77, .iaload, 78, 0, 0), (78, .invokevirtual 95, 81, 0, 217), (81, .goto 32, 84, 0, 113), (84, .aload_n 0, 85, 0, 0), (85, .aload_n 0, 86, 0, 0), (86, .getfield 32, 89, 0, 134), (89, .iload 4, 91, 0, 0), (91, .iaload, 92, 0, 0), (92, .aload_n 0, 93, 0, 0), (93, .getfield 32, 96, 0, 134), (96, .iload 4, 98, 0, 0), (98, .iaload, 99, 0, 0), (99, .aload_n 0, 100, 0, 0), (100, .getfield 35, 103, 0, 135)]
def CX11_scope_2 : List zEn := [(103, .iload 4, 105, 0, 0), (105, .iaload, 106, 0, 0), (106, .iadd, 107, 0, 0), (107, .sipush 248, 110, 248, 0), (110, .invokevirtual 109, 113, 0, 221), (113, .iconst 1, 114, 1, 0), (114, .ireturn, 115, 0, 0)]
def MX11_scope : zMI := (yX11_scope, cX11_scope, 5, (some .boolean), [(49, CX11_scope_0), (103, CX11_scope_1), (99999, CX11_scope_2)], [])
theorem DX11_scope_0 : CX11_scope_0.all (zchk cX11_scope) = true := by decide +kernel
theorem DX11_scope_1 : CX11_scope_1.all (zchk cX11_scope) = true := by decide +kernel
theorem DX11_scope_2 : CX11_scope_2.all (zchk cX11_scope) = true := by decide +kernel
theorem OX11_scope : zMOK MX11_scope := by
  intro q hq e he
  simp only [MX11_scope, zFt, List.mem_cons, List.not_mem_nil, or_false] at hq
  rcases hq with rfl | rfl | rfl
  · exact List.all_eq_true.mp DX11_scope_0 e he
  · exact List.all_eq_true.mp DX11_scope_1 e he
  · exact List.all_eq_true.mp DX11_scope_2 e he
theorem KX11_scope : zMK MX11_scope := ⟨OX11_scope, by decide +kernel, z_in (List.mem_of_getElem? (i := 1197) (by decide +kernel)), z_in (List.mem_of_getElem? (i := 11) (by decide +kernel)), by decide +kernel, by decide +kernel⟩
theorem IX11_scope : Jvm.Cond.instanceMethod yX11_scope ∈ lw_tbl := z_in (List.mem_of_getElem? (i := 1195) (by decide +kernel))
theorem VX11_scope : Jvm.Cond.selects "ShadowWardModel" yX11_scope yX11_scope ∈ lw_tbl := z_in (List.mem_of_getElem? (i := 1196) (by decide +kernel))
def CX11_variable_0 : List zEn := [(0, .aload_n 0, 1, 0, 0), (1, .aload_n 0, 2, 0, 0), (2, .iload_n 1, 3, 0, 0), (3, .iload_n 2, 4, 0, 0), (4, .invokevirtual 113, 7, 0, 224), (7, .ifCond .eq 7, 10, 0, 14), (10, .iconst 1, 11, 1, 0), (11, .goto 4, 14, 0, 15), (14, .iconst 0, 15, 0, 0), (15, .invokevirtual 88, 18, 0, 216), (18, .ifCond .eq 7, 21, 0, 25), (21, .iconst 0, 22, 0, 0), (22, .goto 13, 25, 0, 35), (25, .aload_n 0, 26, 0, 0), (26, .getfield 32, 29, 0, 134), (29, .iconst 4, 30, 4, 0), (30, .iload_n 1, 31, 0, 0), (31, .imul, 32, 0, 0), (32, .iload_n 2, 33, 0, 0), (33, .iadd, 34, 0, 0), (34, .iaload, 35, 0, 0), (35, .ireturn, 36, 0, 0)]
def MX11_variable : zMI := (yX11_variable, cX11_variable, 3, (some .int), [(99999, CX11_variable_0)], [])
theorem DX11_variable_0 : CX11_variable_0.all (zchk cX11_variable) = true := by decide +kernel
theorem OX11_variable : zMOK MX11_variable := by
  intro q hq e he
  simp only [MX11_variable, zFt, List.mem_cons, List.not_mem_nil, or_false] at hq
  rcases hq with rfl
  · exact List.all_eq_true.mp DX11_variable_0 e he
theorem KX11_variable : zMK MX11_variable := ⟨OX11_variable, by decide +kernel, z_in (List.mem_of_getElem? (i := 1205) (by decide +kernel)), z_in (List.mem_of_getElem? (i := 11) (by decide +kernel)), by decide +kernel, by decide +kernel⟩
theorem IX11_variable : Jvm.Cond.instanceMethod yX11_variable ∈ lw_tbl := z_in (List.mem_of_getElem? (i := 1203) (by decide +kernel))
theorem VX11_variable : Jvm.Cond.selects "ShadowWardModel" yX11_variable yX11_variable ∈ lw_tbl := z_in (List.mem_of_getElem? (i := 1204) (by decide +kernel))
def CX11_redzone_0 : List zEn := [(0, .iload_n 0, 1, 0, 0), (1, .bipush 64, 3, 64, 0), (3, .if_icmp .gt 8, 6, 0, 11), (6, .bipush 16, 8, 16, 0), (8, .goto 30, 11, 0, 38), (11, .iload_n 0, 12, 0, 0), (12, .sipush 256, 15, 256, 0), (15, .if_icmp .gt 8, 18, 0, 23), (18, .bipush 32, 20, 32, 0), (20, .goto 18, 23, 0, 38), (23, .iload_n 0, 24, 0, 0), (24, .sipush 1024, 27, 1024, 0), (27, .if_icmp .gt 8, 30, 0, 35), (30, .bipush 64, 32, 64, 0), (32, .goto 6, 35, 0, 38), (35, .sipush 128, 38, 128, 0), (38, .ireturn, 39, 0, 0)]
def MX11_redzone : zMI := (yX11_redzone, cX11_redzone, 1, (some .int), [(99999, CX11_redzone_0)], [])
theorem DX11_redzone_0 : CX11_redzone_0.all (zchk cX11_redzone) = true := by decide +kernel
theorem OX11_redzone : zMOK MX11_redzone := by
  intro q hq e he
  simp only [MX11_redzone, zFt, List.mem_cons, List.not_mem_nil, or_false] at hq
  rcases hq with rfl
  · exact List.all_eq_true.mp DX11_redzone_0 e he
theorem KX11_redzone : zMK MX11_redzone := ⟨OX11_redzone, by decide +kernel, z_in (List.mem_of_getElem? (i := 1216) (by decide +kernel)), z_in (List.mem_of_getElem? (i := 11) (by decide +kernel)), by decide +kernel, by decide +kernel⟩
theorem SX11_redzone : Jvm.Cond.static yX11_redzone ∈ lw_tbl := z_in (List.mem_of_getElem? (i := 1215) (by decide +kernel))
def CX11_isFree_0 : List zEn := [(0, .iconst 0, 1, 0, 0), (1, .istore_n 3, 2, 0, 0), (2, .iload_n 3, 3, 0, 0), (3, .aload_n 0, 4, 0, 0), (4, .getfield 117, 7, 0, 146), (7, .if_icmp .ge 50, 10, 0, 57), (10, .aload_n 0, 11, 0, 0), (11, .getfield 51, 14, 0, 141), (14, .iload_n 3, 15, 0, 0), (15, .iaload, 16, 0, 0), (16, .iconst 2, 17, 2, 0), (17, .if_icmp .eq 34, 20, 0, 51), (20, .iload_n 1, 21, 0, 0), (21, .aload_n 0, 22, 0, 0), (22, .getfield 54, 25, 0, 142), (25, .iload_n 3, 26, 0, 0), (26, .iaload, 27, 0, 0), (27, .aload_n 0, 28, 0, 0), (28, .getfield 57, 31, 0, 143), (31, .iload_n 3, 32, 0, 0), (32, .iaload, 33, 0, 0), (33, .iadd, 34, 0, 0), (34, .if_icmp .ge 17, 37, 0, 51), (37, .aload_n 0, 38, 0, 0), (38, .getfield 54, 41, 0, 142), (41, .iload_n 3, 42, 0, 0), (42, .iaload, 43, 0, 0), (43, .iload_n 1, 44, 0, 0), (44, .iload_n 2, 45, 0, 0), (45, .iadd, 46, 0, 0)]
def CX11_isFree_1 : List zEn := [(46, .if_icmp .ge 5, 49, 0, 51), (49, .iconst 0, 50, 0, 0), (50, .ireturn, 51, 0, 0), (51, .iinc 3 1, 54, 1, 0), (54, .goto (-52), 57, 0, 2), (57, .iconst 1, 58, 1, 0), (58, .ireturn, 59, 0, 0)]
def MX11_isFree : zMI := (yX11_isFree, cX11_isFree, 4, (some .boolean), [(46, CX11_isFree_0), (99999, CX11_isFree_1)], [])
theorem DX11_isFree_0 : CX11_isFree_0.all (zchk cX11_isFree) = true := by decide +kernel
theorem DX11_isFree_1 : CX11_isFree_1.all (zchk cX11_isFree) = true := by decide +kernel
theorem OX11_isFree : zMOK MX11_isFree := by
  intro q hq e he
  simp only [MX11_isFree, zFt, List.mem_cons, List.not_mem_nil, or_false] at hq
  rcases hq with rfl | rfl
  · exact List.all_eq_true.mp DX11_isFree_0 e he
  · exact List.all_eq_true.mp DX11_isFree_1 e he
theorem KX11_isFree : zMK MX11_isFree := ⟨OX11_isFree, by decide +kernel, z_in (List.mem_of_getElem? (i := 1224) (by decide +kernel)), z_in (List.mem_of_getElem? (i := 11) (by decide +kernel)), by decide +kernel, by decide +kernel⟩
theorem IX11_isFree : Jvm.Cond.instanceMethod yX11_isFree ∈ lw_tbl := z_in (List.mem_of_getElem? (i := 1223) (by decide +kernel))
theorem VX11_isFree : Jvm.Cond.selects "ShadowWardModel" yX11_isFree yX11_isFree ∈ lw_tbl := List.mem_append_left _ (List.mem_of_getElem? (i := 30) (by decide +kernel))
def CX11_placeFor_0 : List zEn := [(0, .aload_n 0, 1, 0, 0), (1, .getfield 78, 4, 0, 124), (4, .iconst 4, 5, 4, 0), (5, .idiv, 6, 0, 0), (6, .istore_n 2, 7, 0, 0), (7, .iload_n 2, 8, 0, 0), (8, .iload_n 1, 9, 0, 0), (9, .iadd, 10, 0, 0), (10, .aload_n 0, 11, 0, 0), (11, .getfield 78, 14, 0, 124), (14, .if_icmp .gt 20, 17, 0, 34), (17, .aload_n 0, 18, 0, 0), (18, .iload_n 2, 19, 0, 0), (19, .iload_n 1, 20, 0, 0), (20, .invokevirtual 120, 23, 0, 230), (23, .ifCond .eq 5, 26, 0, 28), (26, .iload_n 2, 27, 0, 0), (27, .ireturn, 28, 0, 0), (28, .iinc 2 16, 31, 16, 0), (31, .goto (-24), 34, 0, 7), (34, .iconst (-1), 35, (-1), 0), (35, .ireturn, 36, 0, 0)]
def MX11_placeFor : zMI := (yX11_placeFor, cX11_placeFor, 3, (some .int), [(99999, CX11_placeFor_0)], [])
theorem DX11_placeFor_0 : CX11_placeFor_0.all (zchk cX11_placeFor) = true := by decide +kernel
theorem OX11_placeFor : zMOK MX11_placeFor := by
  intro q hq e he
  simp only [MX11_placeFor, zFt, List.mem_cons, List.not_mem_nil, or_false] at hq
  rcases hq with rfl
  · exact List.all_eq_true.mp DX11_placeFor_0 e he
theorem KX11_placeFor : zMK MX11_placeFor := ⟨OX11_placeFor, by decide +kernel, z_in (List.mem_of_getElem? (i := 1220) (by decide +kernel)), z_in (List.mem_of_getElem? (i := 11) (by decide +kernel)), by decide +kernel, by decide +kernel⟩
theorem IX11_placeFor : Jvm.Cond.instanceMethod yX11_placeFor ∈ lw_tbl := z_in (List.mem_of_getElem? (i := 1219) (by decide +kernel))
theorem VX11_placeFor : Jvm.Cond.selects "ShadowWardModel" yX11_placeFor yX11_placeFor ∈ lw_tbl := List.mem_append_left _ (List.mem_of_getElem? (i := 29) (by decide +kernel))
def CX11_oldestLeaves_0 : List zEn := [(0, .aload_n 0, 1, 0, 0), (1, .getfield 66, 4, 0, 147), (4, .iconst 0, 5, 0, 0), (5, .iaload, 6, 0, 0), (6, .istore_n 1, 7, 0, 0), (7, .aload_n 0, 8, 0, 0), (8, .dup, 9, 0, 0), (9, .getfield 123, 12, 0, 148), (12, .iconst 1, 13, 1, 0), (13, .isub, 14, 0, 0), (14, .putfield 123, 17, 0, 148), (17, .iconst 0, 18, 0, 0), (18, .istore_n 2, 19, 0, 0), (19, .iload_n 2, 20, 0, 0), (20, .aload_n 0, 21, 0, 0), (21, .getfield 123, 24, 0, 148), (24, .if_icmp .ge 23, 27, 0, 47), (27, .aload_n 0, 28, 0, 0), (28, .getfield 66, 31, 0, 147), (31, .iload_n 2, 32, 0, 0), (32, .aload_n 0, 33, 0, 0), (33, .getfield 66, 36, 0, 147), (36, .iload_n 2, 37, 0, 0), (37, .iconst 1, 38, 1, 0), (38, .iadd, 39, 0, 0), (39, .iaload, 40, 0, 0), (40, .iastore, 41, 0, 0), (41, .iinc 2 1, 44, 1, 0), (44, .goto (-25), 47, 0, 19), (47, .aload_n 0, 48, 0, 0)]
def CX11_oldestLeaves_1 : List zEn := [(48, .getfield 51, 51, 0, 141), (51, .iload_n 1, 52, 0, 0), (52, .iconst 2, 53, 2, 0), (53, .iastore, 54, 0, 0), (54, .aload_n 0, 55, 0, 0), (55, .aload_n 0, 56, 0, 0), (56, .getfield 54, 59, 0, 142), (59, .iload_n 1, 60, 0, 0), (60, .iaload, 61, 0, 0), (61, .aload_n 0, 62, 0, 0), (62, .getfield 54, 65, 0, 142), (65, .iload_n 1, 66, 0, 0), (66, .iaload, 67, 0, 0), (67, .aload_n 0, 68, 0, 0), (68, .getfield 57, 71, 0, 143), (71, .iload_n 1, 72, 0, 0), (72, .iaload, 73, 0, 0), (73, .iadd, 74, 0, 0), (74, .sipush 250, 77, 250, 0), (77, .invokevirtual 109, 80, 0, 221), (80, .return_, 81, 0, 0)]
def MX11_oldestLeaves : zMI := (yX11_oldestLeaves, cX11_oldestLeaves, 3, none, [(48, CX11_oldestLeaves_0), (99999, CX11_oldestLeaves_1)], [])
theorem DX11_oldestLeaves_0 : CX11_oldestLeaves_0.all (zchk cX11_oldestLeaves) = true := by decide +kernel
theorem DX11_oldestLeaves_1 : CX11_oldestLeaves_1.all (zchk cX11_oldestLeaves) = true := by decide +kernel
theorem OX11_oldestLeaves : zMOK MX11_oldestLeaves := by
  intro q hq e he
  simp only [MX11_oldestLeaves, zFt, List.mem_cons, List.not_mem_nil, or_false] at hq
  rcases hq with rfl | rfl
  · exact List.all_eq_true.mp DX11_oldestLeaves_0 e he
  · exact List.all_eq_true.mp DX11_oldestLeaves_1 e he
theorem KX11_oldestLeaves : zMK MX11_oldestLeaves := ⟨OX11_oldestLeaves, by decide +kernel, z_in (List.mem_of_getElem? (i := 1228) (by decide +kernel)), z_in (List.mem_of_getElem? (i := 11) (by decide +kernel)), by decide +kernel, by decide +kernel⟩
theorem IX11_oldestLeaves : Jvm.Cond.instanceMethod yX11_oldestLeaves ∈ lw_tbl := z_in (List.mem_of_getElem? (i := 1227) (by decide +kernel))
theorem VX11_oldestLeaves : Jvm.Cond.selects "ShadowWardModel" yX11_oldestLeaves yX11_oldestLeaves ∈ lw_tbl := List.mem_append_left _ (List.mem_of_getElem? (i := 31) (by decide +kernel))
def CX11_given_0 : List zEn := [(0, .iload_n 2, 1, 0, 0), (1, .invokestatic 126, 4, 0, 228), (4, .iload_n 2, 5, 0, 0), (5, .bipush 15, 7, 15, 0), (7, .iadd, 8, 0, 0), (8, .bipush 16, 10, 16, 0), (10, .idiv, 11, 0, 0), (11, .bipush 16, 13, 16, 0), (13, .imul, 14, 0, 0), (14, .iadd, 15, 0, 0), (15, .bipush 16, 17, 16, 0), (17, .iadd, 18, 0, 0), (18, .istore 4, 20, 0, 0), (20, .aload_n 0, 21, 0, 0), (21, .iload 4, 23, 0, 0), (23, .invokevirtual 129, 26, 0, 229), (26, .istore 5, 28, 0, 0), (28, .iload 5, 30, 0, 0), (30, .ifCond .ge 25, 33, 0, 55), (33, .aload_n 0, 34, 0, 0), (34, .getfield 123, 37, 0, 148), (37, .ifCond .le 18, 40, 0, 55), (40, .aload_n 0, 41, 0, 0), (41, .invokevirtual 132, 44, 0, 231), (44, .aload_n 0, 45, 0, 0), (45, .iload 4, 47, 0, 0), (47, .invokevirtual 129, 50, 0, 229), (50, .istore 5, 52, 0, 0), (52, .goto (-24), 55, 0, 28), (55, .iload 5, 57, 0, 0)]
def CX11_given_1 : List zEn := [(57, .ifCond .ge 5, 60, 0, 62), (60, .iconst (-1), 61, (-1), 0), (61, .ireturn, 62, 0, 0), (62, .aload_n 0, 63, 0, 0), (63, .dup, 64, 0, 0), (64, .getfield 117, 67, 0, 146), (67, .dup_x1, 68, 0, 0), (68, .iconst 1, 69, 1, 0), (69, .iadd, 70, 0, 0), (70, .putfield 117, 73, 0, 146), (73, .istore 6, 75, 0, 0), (75, .aload_n 0, 76, 0, 0), (76, .getfield 54, 79, 0, 142), (79, .iload 6, 81, 0, 0), (81, .iload 5, 83, 0, 0), (83, .iastore, 84, 0, 0), (84, .aload_n 0, 85, 0, 0), (85, .getfield 57, 88, 0, 143), (88, .iload 6, 90, 0, 0), (90, .iload 4, 92, 0, 0), (92, .iastore, 93, 0, 0), (93, .aload_n 0, 94, 0, 0), (94, .getfield 42, 97, 0, 138), (97, .iload 6, 99, 0, 0), (99, .iload 5, 101, 0, 0), (101, .iload_n 2, 102, 0, 0), (102, .invokestatic 126, 105, 0, 228), (105, .iadd, 106, 0, 0), (106, .iastore, 107, 0, 0), (107, .aload_n 0, 108, 0, 0)]
def CX11_given_2 : List zEn := [(108, .getfield 45, 111, 0, 139), (111, .iload 6, 113, 0, 0), (113, .iload_n 2, 114, 0, 0), (114, .iastore, 115, 0, 0), (115, .aload_n 0, 116, 0, 0), (116, .getfield 48, 119, 0, 140), (119, .iload 6, 121, 0, 0), (121, .iload_n 1, 122, 0, 0), (122, .iastore, 123, 0, 0), (123, .aload_n 0, 124, 0, 0), (124, .getfield 51, 127, 0, 141), (127, .iload 6, 129, 0, 0), (129, .iconst 0, 130, 0, 0), (130, .iastore, 131, 0, 0), (131, .aload_n 0, 132, 0, 0), (132, .getfield 60, 135, 0, 144), (135, .iload 6, 137, 0, 0), (137, .iload_n 3, 138, 0, 0), (138, .iastore, 139, 0, 0), (139, .aload_n 0, 140, 0, 0), (140, .getfield 63, 143, 0, 145), (143, .iload 6, 145, 0, 0), (145, .iconst 0, 146, 0, 0), (146, .iastore, 147, 0, 0), (147, .iconst 0, 148, 0, 0), (148, .istore 7, 150, 0, 0), (150, .iload 7, 152, 0, 0), (152, .iload_n 2, 153, 0, 0), (153, .if_icmp .ge 26, 156, 0, 179), (156, .aload_n 0, 157, 0, 0)]
def CX11_given_3 : List zEn := [(157, .getfield 7, 160, 0, 126), (160, .aload_n 0, 161, 0, 0), (161, .getfield 42, 164, 0, 138), (164, .iload 6, 166, 0, 0), (166, .iaload, 167, 0, 0), (167, .iload 7, 169, 0, 0), (169, .iadd, 170, 0, 0), (170, .bipush (-66), 172, (-66), 0), (172, .bastore, 173, 0, 0), (173, .iinc 7 1, 176, 1, 0), (176, .goto (-26), 179, 0, 150), (179, .aload_n 0, 180, 0, 0), (180, .iload 5, 182, 0, 0), (182, .iload 5, 184, 0, 0), (184, .iload 4, 186, 0, 0), (186, .iadd, 187, 0, 0), (187, .sipush 250, 190, 250, 0), (190, .invokevirtual 109, 193, 0, 221), (193, .aload_n 0, 194, 0, 0), (194, .aload_n 0, 195, 0, 0), (195, .getfield 42, 198, 0, 138), (198, .iload 6, 200, 0, 0), (200, .iaload, 201, 0, 0), (201, .iload_n 2, 202, 0, 0), (202, .invokevirtual 95, 205, 0, 217), (205, .aload_n 0, 206, 0, 0), (206, .getfield 42, 209, 0, 138), (209, .iload 6, 211, 0, 0), (211, .iaload, 212, 0, 0), (212, .ireturn, 213, 0, 0)]
def MX11_given : zMI := (yX11_given, cX11_given, 8, (some .int), [(57, CX11_given_0), (108, CX11_given_1), (157, CX11_given_2), (99999, CX11_given_3)], [])
theorem DX11_given_0 : CX11_given_0.all (zchk cX11_given) = true := by decide +kernel
theorem DX11_given_1 : CX11_given_1.all (zchk cX11_given) = true := by decide +kernel
theorem DX11_given_2 : CX11_given_2.all (zchk cX11_given) = true := by decide +kernel
theorem DX11_given_3 : CX11_given_3.all (zchk cX11_given) = true := by decide +kernel
theorem OX11_given : zMOK MX11_given := by
  intro q hq e he
  simp only [MX11_given, zFt, List.mem_cons, List.not_mem_nil, or_false] at hq
  rcases hq with rfl | rfl | rfl | rfl
  · exact List.all_eq_true.mp DX11_given_0 e he
  · exact List.all_eq_true.mp DX11_given_1 e he
  · exact List.all_eq_true.mp DX11_given_2 e he
  · exact List.all_eq_true.mp DX11_given_3 e he
theorem KX11_given : zMK MX11_given := ⟨OX11_given, by decide +kernel, z_in (List.mem_of_getElem? (i := 1213) (by decide +kernel)), z_in (List.mem_of_getElem? (i := 11) (by decide +kernel)), by decide +kernel, by decide +kernel⟩
theorem IX11_given : Jvm.Cond.instanceMethod yX11_given ∈ lw_tbl := z_in (List.mem_of_getElem? (i := 1212) (by decide +kernel))
theorem VX11_given : Jvm.Cond.selects "ShadowWardModel" yX11_given yX11_given ∈ lw_tbl := List.mem_append_left _ (List.mem_of_getElem? (i := 28) (by decide +kernel))
def CX11_allocate_0 : List zEn := [(0, .aload_n 0, 1, 0, 0), (1, .iload_n 1, 2, 0, 0), (2, .ifCond .lt 20, 5, 0, 22), (5, .iload_n 1, 6, 0, 0), (6, .iconst 2, 7, 2, 0), (7, .if_icmp .gt 15, 10, 0, 22), (10, .iload_n 2, 11, 0, 0), (11, .ifCond .lt 11, 14, 0, 22), (14, .iload_n 2, 15, 0, 0), (15, .aload_n 0, 16, 0, 0), (16, .getfield 78, 19, 0, 124), (19, .if_icmp .le 7, 22, 0, 26), (22, .iconst 1, 23, 1, 0), (23, .goto 4, 26, 0, 27), (26, .iconst 0, 27, 0, 0), (27, .invokevirtual 88, 30, 0, 216), (30, .ifCond .eq 7, 33, 0, 37), (33, .iconst 0, 34, 0, 0), (34, .goto 10, 37, 0, 44), (37, .aload_n 0, 38, 0, 0), (38, .iload_n 1, 39, 0, 0), (39, .iload_n 2, 40, 0, 0), (40, .iload_n 3, 41, 0, 0), (41, .invokevirtual 135, 44, 0, 227), (44, .ireturn, 45, 0, 0)]
def MX11_allocate : zMI := (yX11_allocate, cX11_allocate, 4, (some .int), [(99999, CX11_allocate_0)], [])
theorem DX11_allocate_0 : CX11_allocate_0.all (zchk cX11_allocate) = true := by decide +kernel
theorem OX11_allocate : zMOK MX11_allocate := by
  intro q hq e he
  simp only [MX11_allocate, zFt, List.mem_cons, List.not_mem_nil, or_false] at hq
  rcases hq with rfl
  · exact List.all_eq_true.mp DX11_allocate_0 e he
theorem KX11_allocate : zMK MX11_allocate := ⟨OX11_allocate, by decide +kernel, z_in (List.mem_of_getElem? (i := 1209) (by decide +kernel)), z_in (List.mem_of_getElem? (i := 11) (by decide +kernel)), by decide +kernel, by decide +kernel⟩
theorem IX11_allocate : Jvm.Cond.instanceMethod yX11_allocate ∈ lw_tbl := z_in (List.mem_of_getElem? (i := 1207) (by decide +kernel))
theorem VX11_allocate : Jvm.Cond.selects "ShadowWardModel" yX11_allocate yX11_allocate ∈ lw_tbl := z_in (List.mem_of_getElem? (i := 1208) (by decide +kernel))
def CX11_heldBytes_0 : List zEn := [(0, .iconst 0, 1, 0, 0), (1, .istore_n 1, 2, 0, 0), (2, .iconst 0, 3, 0, 0), (3, .istore_n 2, 4, 0, 0), (4, .iload_n 2, 5, 0, 0), (5, .aload_n 0, 6, 0, 0), (6, .getfield 123, 9, 0, 148), (9, .if_icmp .ge 23, 12, 0, 32), (12, .iload_n 1, 13, 0, 0), (13, .aload_n 0, 14, 0, 0), (14, .getfield 57, 17, 0, 143), (17, .aload_n 0, 18, 0, 0), (18, .getfield 66, 21, 0, 147), (21, .iload_n 2, 22, 0, 0), (22, .iaload, 23, 0, 0), (23, .iaload, 24, 0, 0), (24, .iadd, 25, 0, 0), (25, .istore_n 1, 26, 0, 0), (26, .iinc 2 1, 29, 1, 0), (29, .goto (-25), 32, 0, 4), (32, .iload_n 1, 33, 0, 0), (33, .ireturn, 34, 0, 0)]
def MX11_heldBytes : zMI := (yX11_heldBytes, cX11_heldBytes, 3, (some .int), [(99999, CX11_heldBytes_0)], [])
theorem DX11_heldBytes_0 : CX11_heldBytes_0.all (zchk cX11_heldBytes) = true := by decide +kernel
theorem OX11_heldBytes : zMOK MX11_heldBytes := by
  intro q hq e he
  simp only [MX11_heldBytes, zFt, List.mem_cons, List.not_mem_nil, or_false] at hq
  rcases hq with rfl
  · exact List.all_eq_true.mp DX11_heldBytes_0 e he
theorem KX11_heldBytes : zMK MX11_heldBytes := ⟨OX11_heldBytes, by decide +kernel, z_in (List.mem_of_getElem? (i := 1263) (by decide +kernel)), z_in (List.mem_of_getElem? (i := 11) (by decide +kernel)), by decide +kernel, by decide +kernel⟩
theorem IX11_heldBytes : Jvm.Cond.instanceMethod yX11_heldBytes ∈ lw_tbl := z_in (List.mem_of_getElem? (i := 1262) (by decide +kernel))
theorem VX11_heldBytes : Jvm.Cond.selects "ShadowWardModel" yX11_heldBytes yX11_heldBytes ∈ lw_tbl := List.mem_append_left _ (List.mem_of_getElem? (i := 38) (by decide +kernel))
def CX11_goes_0 : List zEn := [(0, .aload_n 0, 1, 0, 0), (1, .getfield 51, 4, 0, 141), (4, .iload_n 1, 5, 0, 0), (5, .iconst 1, 6, 1, 0), (6, .iastore, 7, 0, 0), (7, .aload_n 0, 8, 0, 0), (8, .getfield 63, 11, 0, 145), (11, .iload_n 1, 12, 0, 0), (12, .iload_n 2, 13, 0, 0), (13, .iastore, 14, 0, 0), (14, .aload_n 0, 15, 0, 0), (15, .getfield 66, 18, 0, 147), (18, .aload_n 0, 19, 0, 0), (19, .dup, 20, 0, 0), (20, .getfield 123, 23, 0, 148), (23, .dup_x1, 24, 0, 0), (24, .iconst 1, 25, 1, 0), (25, .iadd, 26, 0, 0), (26, .putfield 123, 29, 0, 148), (29, .iload_n 1, 30, 0, 0), (30, .iastore, 31, 0, 0), (31, .aload_n 0, 32, 0, 0), (32, .aload_n 0, 33, 0, 0), (33, .getfield 42, 36, 0, 138), (36, .iload_n 1, 37, 0, 0), (37, .iaload, 38, 0, 0), (38, .aload_n 0, 39, 0, 0), (39, .getfield 42, 42, 0, 138), (42, .iload_n 1, 43, 0, 0), (43, .iaload, 44, 0, 0)]
def CX11_goes_1 : List zEn := [(44, .aload_n 0, 45, 0, 0), (45, .getfield 45, 48, 0, 139), (48, .iload_n 1, 49, 0, 0), (49, .iaload, 50, 0, 0), (50, .iadd, 51, 0, 0), (51, .sipush 253, 54, 253, 0), (54, .invokevirtual 109, 57, 0, 221), (57, .aload_n 0, 58, 0, 0), (58, .invokevirtual 139, 61, 0, 240), (61, .aload_n 0, 62, 0, 0), (62, .getfield 82, 65, 0, 125), (65, .if_icmp .le 10, 68, 0, 75), (68, .aload_n 0, 69, 0, 0), (69, .invokevirtual 132, 72, 0, 231), (72, .goto (-15), 75, 0, 57), (75, .return_, 76, 0, 0)]
def MX11_goes : zMI := (yX11_goes, cX11_goes, 3, none, [(44, CX11_goes_0), (99999, CX11_goes_1)], [])
theorem DX11_goes_0 : CX11_goes_0.all (zchk cX11_goes) = true := by decide +kernel
theorem DX11_goes_1 : CX11_goes_1.all (zchk cX11_goes) = true := by decide +kernel
theorem OX11_goes : zMOK MX11_goes := by
  intro q hq e he
  simp only [MX11_goes, zFt, List.mem_cons, List.not_mem_nil, or_false] at hq
  rcases hq with rfl | rfl
  · exact List.all_eq_true.mp DX11_goes_0 e he
  · exact List.all_eq_true.mp DX11_goes_1 e he
theorem KX11_goes : zMK MX11_goes := ⟨OX11_goes, by decide +kernel, z_in (List.mem_of_getElem? (i := 1259) (by decide +kernel)), z_in (List.mem_of_getElem? (i := 11) (by decide +kernel)), by decide +kernel, by decide +kernel⟩
theorem IX11_goes : Jvm.Cond.instanceMethod yX11_goes ∈ lw_tbl := z_in (List.mem_of_getElem? (i := 1258) (by decide +kernel))
theorem VX11_goes : Jvm.Cond.selects "ShadowWardModel" yX11_goes yX11_goes ∈ lw_tbl := List.mem_append_left _ (List.mem_of_getElem? (i := 37) (by decide +kernel))
def CX11_blockIn_0 : List zEn := [(0, .iconst 0, 1, 0, 0), (1, .istore_n 3, 2, 0, 0), (2, .iload_n 3, 3, 0, 0), (3, .aload_n 0, 4, 0, 0), (4, .getfield 117, 7, 0, 146), (7, .if_icmp .ge 31, 10, 0, 38), (10, .aload_n 0, 11, 0, 0), (11, .getfield 42, 14, 0, 138), (14, .iload_n 3, 15, 0, 0), (15, .iaload, 16, 0, 0), (16, .iload_n 1, 17, 0, 0), (17, .if_icmp .ne 15, 20, 0, 32), (20, .aload_n 0, 21, 0, 0), (21, .getfield 51, 24, 0, 141), (24, .iload_n 3, 25, 0, 0), (25, .iaload, 26, 0, 0), (26, .iload_n 2, 27, 0, 0), (27, .if_icmp .ne 5, 30, 0, 32), (30, .iload_n 3, 31, 0, 0), (31, .ireturn, 32, 0, 0), (32, .iinc 3 1, 35, 1, 0), (35, .goto (-33), 38, 0, 2), (38, .iconst (-1), 39, (-1), 0), (39, .ireturn, 40, 0, 0)]
def MX11_blockIn : zMI := (yX11_blockIn, cX11_blockIn, 4, (some .int), [(99999, CX11_blockIn_0)], [])
theorem DX11_blockIn_0 : CX11_blockIn_0.all (zchk cX11_blockIn) = true := by decide +kernel
theorem OX11_blockIn : zMOK MX11_blockIn := by
  intro q hq e he
  simp only [MX11_blockIn, zFt, List.mem_cons, List.not_mem_nil, or_false] at hq
  rcases hq with rfl
  · exact List.all_eq_true.mp DX11_blockIn_0 e he
theorem KX11_blockIn : zMK MX11_blockIn := ⟨OX11_blockIn, by decide +kernel, z_in (List.mem_of_getElem? (i := 1240) (by decide +kernel)), z_in (List.mem_of_getElem? (i := 11) (by decide +kernel)), by decide +kernel, by decide +kernel⟩
theorem IX11_blockIn : Jvm.Cond.instanceMethod yX11_blockIn ∈ lw_tbl := z_in (List.mem_of_getElem? (i := 1239) (by decide +kernel))
theorem VX11_blockIn : Jvm.Cond.selects "ShadowWardModel" yX11_blockIn yX11_blockIn ∈ lw_tbl := List.mem_append_left _ (List.mem_of_getElem? (i := 33) (by decide +kernel))
def CX11_mayGo_0 : List zEn := [(0, .aload_n 0, 1, 0, 0), (1, .iload_n 2, 2, 0, 0), (2, .iconst 0, 3, 0, 0), (3, .invokevirtual 143, 6, 0, 234), (6, .istore_n 3, 7, 0, 0), (7, .iload_n 3, 8, 0, 0), (8, .ifCond .lt 15, 11, 0, 23), (11, .aload_n 0, 12, 0, 0), (12, .getfield 48, 15, 0, 140), (15, .iload_n 3, 16, 0, 0), (16, .iaload, 17, 0, 0), (17, .iload_n 1, 18, 0, 0), (18, .if_icmp .ne 5, 21, 0, 23), (21, .iload_n 3, 22, 0, 0), (22, .ireturn, 23, 0, 0), (23, .aload_n 0, 24, 0, 0), (24, .iload_n 3, 25, 0, 0), (25, .ifCond .lt 8, 28, 0, 33), (28, .bipush 12, 30, 12, 0), (30, .goto 19, 33, 0, 49), (33, .aload_n 0, 34, 0, 0), (34, .iload_n 2, 35, 0, 0), (35, .iconst 1, 36, 1, 0), (36, .invokevirtual 143, 39, 0, 234), (39, .ifCond .lt 8, 42, 0, 47), (42, .bipush 10, 44, 10, 0), (44, .goto 5, 47, 0, 49), (47, .bipush 11, 49, 11, 0), (49, .iload_n 2, 50, 0, 0), (50, .i2l, 51, 0, 0)]
def CX11_mayGo_1 : List zEn := [(51, .iconst 0, 52, 0, 0), (52, .iconst 1, 53, 1, 0), (53, .invokevirtual 147, 56, 0, 235), (56, .iconst (-1), 57, (-1), 0), (57, .ireturn, 58, 0, 0)]
def MX11_mayGo : zMI := (yX11_mayGo, cX11_mayGo, 4, (some .int), [(51, CX11_mayGo_0), (99999, CX11_mayGo_1)], [])
theorem DX11_mayGo_0 : CX11_mayGo_0.all (zchk cX11_mayGo) = true := by decide +kernel
theorem DX11_mayGo_1 : CX11_mayGo_1.all (zchk cX11_mayGo) = true := by decide +kernel
theorem OX11_mayGo : zMOK MX11_mayGo := by
  intro q hq e he
  simp only [MX11_mayGo, zFt, List.mem_cons, List.not_mem_nil, or_false] at hq
  rcases hq with rfl | rfl
  · exact List.all_eq_true.mp DX11_mayGo_0 e he
  · exact List.all_eq_true.mp DX11_mayGo_1 e he
theorem KX11_mayGo : zMK MX11_mayGo := ⟨OX11_mayGo, by decide +kernel, z_in (List.mem_of_getElem? (i := 1236) (by decide +kernel)), z_in (List.mem_of_getElem? (i := 11) (by decide +kernel)), by decide +kernel, by decide +kernel⟩
theorem IX11_mayGo : Jvm.Cond.instanceMethod yX11_mayGo ∈ lw_tbl := z_in (List.mem_of_getElem? (i := 1235) (by decide +kernel))
theorem VX11_mayGo : Jvm.Cond.selects "ShadowWardModel" yX11_mayGo yX11_mayGo ∈ lw_tbl := List.mem_append_left _ (List.mem_of_getElem? (i := 32) (by decide +kernel))
def CX11_free_0 : List zEn := [(0, .aload_n 0, 1, 0, 0), (1, .iload_n 1, 2, 0, 0), (2, .ifCond .lt 8, 5, 0, 10), (5, .iload_n 1, 6, 0, 0), (6, .iconst 2, 7, 2, 0), (7, .if_icmp .le 7, 10, 0, 14), (10, .iconst 1, 11, 1, 0), (11, .goto 4, 14, 0, 15), (14, .iconst 0, 15, 0, 0), (15, .invokevirtual 88, 18, 0, 216), (18, .ifCond .ne 8, 21, 0, 26), (21, .iload_n 2, 22, 0, 0), (22, .iconst (-1), 23, (-1), 0), (23, .if_icmp .ne 5, 26, 0, 28), (26, .iconst 0, 27, 0, 0), (27, .ireturn, 28, 0, 0), (28, .aload_n 0, 29, 0, 0), (29, .iload_n 1, 30, 0, 0), (30, .iload_n 2, 31, 0, 0), (31, .invokevirtual 151, 34, 0, 233), (34, .istore 4, 36, 0, 0), (36, .iload 4, 38, 0, 0), (38, .ifCond .lt 10, 41, 0, 48), (41, .aload_n 0, 42, 0, 0), (42, .iload 4, 44, 0, 0), (44, .iload_n 3, 45, 0, 0), (45, .invokevirtual 154, 48, 0, 239), (48, .iload 4, 50, 0, 0), (50, .ifCond .lt 7, 53, 0, 57), (53, .iconst 1, 54, 1, 0)]
def CX11_free_1 : List zEn := [(54, .goto 4, 57, 0, 58), (57, .iconst 0, 58, 0, 0), (58, .ireturn, 59, 0, 0)]
def MX11_free : zMI := (yX11_free, cX11_free, 5, (some .boolean), [(54, CX11_free_0), (99999, CX11_free_1)], [])
theorem DX11_free_0 : CX11_free_0.all (zchk cX11_free) = true := by decide +kernel
theorem DX11_free_1 : CX11_free_1.all (zchk cX11_free) = true := by decide +kernel
theorem OX11_free : zMOK MX11_free := by
  intro q hq e he
  simp only [MX11_free, zFt, List.mem_cons, List.not_mem_nil, or_false] at hq
  rcases hq with rfl | rfl
  · exact List.all_eq_true.mp DX11_free_0 e he
  · exact List.all_eq_true.mp DX11_free_1 e he
theorem KX11_free : zMK MX11_free := ⟨OX11_free, by decide +kernel, z_in (List.mem_of_getElem? (i := 1232) (by decide +kernel)), z_in (List.mem_of_getElem? (i := 11) (by decide +kernel)), by decide +kernel, by decide +kernel⟩
theorem IX11_free : Jvm.Cond.instanceMethod yX11_free ∈ lw_tbl := z_in (List.mem_of_getElem? (i := 1230) (by decide +kernel))
theorem VX11_free : Jvm.Cond.selects "ShadowWardModel" yX11_free yX11_free ∈ lw_tbl := z_in (List.mem_of_getElem? (i := 1231) (by decide +kernel))
def CX11_resize_0 : List zEn := [(0, .aload_n 0, 1, 0, 0), (1, .iload_n 2, 2, 0, 0), (2, .ifCond .lt 11, 5, 0, 13), (5, .iload_n 2, 6, 0, 0), (6, .aload_n 0, 7, 0, 0), (7, .getfield 78, 10, 0, 124), (10, .if_icmp .le 7, 13, 0, 17), (13, .iconst 1, 14, 1, 0), (14, .goto 4, 17, 0, 18), (17, .iconst 0, 18, 0, 0), (18, .invokevirtual 88, 21, 0, 216), (21, .ifCond .eq 5, 24, 0, 26), (24, .iconst 0, 25, 0, 0), (25, .ireturn, 26, 0, 0), (26, .iload_n 1, 27, 0, 0), (27, .iconst (-1), 28, (-1), 0), (28, .if_icmp .ne 11, 31, 0, 39), (31, .aload_n 0, 32, 0, 0), (32, .iconst 0, 33, 0, 0), (33, .iload_n 2, 34, 0, 0), (34, .iload_n 3, 35, 0, 0), (35, .invokevirtual 135, 38, 0, 227), (38, .ireturn, 39, 0, 0), (39, .aload_n 0, 40, 0, 0), (40, .iconst 0, 41, 0, 0), (41, .iload_n 1, 42, 0, 0), (42, .invokevirtual 151, 45, 0, 233), (45, .istore 4, 47, 0, 0), (47, .iload 4, 49, 0, 0), (49, .ifCond .ge 5, 52, 0, 54)]
def CX11_resize_1 : List zEn := [(52, .iconst (-1), 53, (-1), 0), (53, .ireturn, 54, 0, 0), (54, .aload_n 0, 55, 0, 0), (55, .iconst 0, 56, 0, 0), (56, .iload_n 2, 57, 0, 0), (57, .iload_n 3, 58, 0, 0), (58, .invokevirtual 135, 61, 0, 227), (61, .istore 5, 63, 0, 0), (63, .iload 5, 65, 0, 0), (65, .ifCond .ge 5, 68, 0, 70), (68, .iconst (-1), 69, (-1), 0), (69, .ireturn, 70, 0, 0), (70, .iconst 0, 71, 0, 0), (71, .istore 6, 73, 0, 0), (73, .iload 6, 75, 0, 0), (75, .iload_n 2, 76, 0, 0), (76, .if_icmp .ge 46, 79, 0, 122), (79, .iload 6, 81, 0, 0), (81, .aload_n 0, 82, 0, 0), (82, .getfield 45, 85, 0, 139), (85, .iload 4, 87, 0, 0), (87, .iaload, 88, 0, 0), (88, .if_icmp .ge 34, 91, 0, 122), (91, .aload_n 0, 92, 0, 0), (92, .getfield 7, 95, 0, 126), (95, .iload 5, 97, 0, 0), (97, .iload 6, 99, 0, 0), (99, .iadd, 100, 0, 0), (100, .aload_n 0, 101, 0, 0), (101, .getfield 7, 104, 0, 126)]
def CX11_resize_2 : List zEn := [(104, .aload_n 0, 105, 0, 0), (105, .getfield 42, 108, 0, 138), (108, .iload 4, 110, 0, 0), (110, .iaload, 111, 0, 0), (111, .iload 6, 113, 0, 0), (113, .iadd, 114, 0, 0), (114, .baload, 115, 0, 0), (115, .bastore, 116, 0, 0), (116, .iinc 6 1, 119, 1, 0), (119, .goto (-46), 122, 0, 73), (122, .aload_n 0, 123, 0, 0), (123, .iload 4, 125, 0, 0), (125, .iload_n 3, 126, 0, 0), (126, .invokevirtual 154, 129, 0, 239), (129, .iload 5, 131, 0, 0), (131, .ireturn, 132, 0, 0)]
def MX11_resize : zMI := (yX11_resize, cX11_resize, 7, (some .int), [(52, CX11_resize_0), (104, CX11_resize_1), (99999, CX11_resize_2)], [])
theorem DX11_resize_0 : CX11_resize_0.all (zchk cX11_resize) = true := by decide +kernel
theorem DX11_resize_1 : CX11_resize_1.all (zchk cX11_resize) = true := by decide +kernel
theorem DX11_resize_2 : CX11_resize_2.all (zchk cX11_resize) = true := by decide +kernel
theorem OX11_resize : zMOK MX11_resize := by
  intro q hq e he
  simp only [MX11_resize, zFt, List.mem_cons, List.not_mem_nil, or_false] at hq
  rcases hq with rfl | rfl | rfl
  · exact List.all_eq_true.mp DX11_resize_0 e he
  · exact List.all_eq_true.mp DX11_resize_1 e he
  · exact List.all_eq_true.mp DX11_resize_2 e he
theorem KX11_resize : zMK MX11_resize := ⟨OX11_resize, by decide +kernel, z_in (List.mem_of_getElem? (i := 1267) (by decide +kernel)), z_in (List.mem_of_getElem? (i := 11) (by decide +kernel)), by decide +kernel, by decide +kernel⟩
theorem IX11_resize : Jvm.Cond.instanceMethod yX11_resize ∈ lw_tbl := z_in (List.mem_of_getElem? (i := 1265) (by decide +kernel))
theorem VX11_resize : Jvm.Cond.selects "ShadowWardModel" yX11_resize yX11_resize ∈ lw_tbl := z_in (List.mem_of_getElem? (i := 1266) (by decide +kernel))
def CX11_far_0 : List zEn := [(0, .lload_n 0, 1, 0, 0), (1, .iload_n 2, 2, 0, 0), (2, .i2l, 3, 0, 0), (3, .lcmp, 4, 0, 0), (4, .ifCond .ge 10, 7, 0, 14), (7, .iload_n 2, 8, 0, 0), (8, .i2l, 9, 0, 0), (9, .lload_n 0, 10, 0, 0), (10, .lsub, 11, 0, 0), (11, .goto 24, 14, 0, 35), (14, .lload_n 0, 15, 0, 0), (15, .iload_n 2, 16, 0, 0), (16, .iload_n 3, 17, 0, 0), (17, .iadd, 18, 0, 0), (18, .i2l, 19, 0, 0), (19, .lcmp, 20, 0, 0), (20, .ifCond .lt 14, 23, 0, 34), (23, .lload_n 0, 24, 0, 0), (24, .iload_n 2, 25, 0, 0), (25, .iload_n 3, 26, 0, 0), (26, .iadd, 27, 0, 0), (27, .i2l, 28, 0, 0), (28, .lsub, 29, 0, 0), (29, .lconst 1, 30, 0, 0), (30, .ladd, 31, 0, 0), (31, .goto 4, 34, 0, 35), (34, .lconst 0, 35, 0, 0), (35, .lreturn, 36, 0, 0)]
def MX11_far : zMI := (yX11_far, cX11_far, 4, (some .long), [(99999, CX11_far_0)], [])
theorem DX11_far_0 : CX11_far_0.all (zchk cX11_far) = true := by decide +kernel
theorem OX11_far : zMOK MX11_far := by
  intro q hq e he
  simp only [MX11_far, zFt, List.mem_cons, List.not_mem_nil, or_false] at hq
  rcases hq with rfl
  · exact List.all_eq_true.mp DX11_far_0 e he
theorem KX11_far : zMK MX11_far := ⟨OX11_far, by decide +kernel, z_in (List.mem_of_getElem? (i := 1251) (by decide +kernel)), z_in (List.mem_of_getElem? (i := 11) (by decide +kernel)), by decide +kernel, by decide +kernel⟩
theorem SX11_far : Jvm.Cond.static yX11_far ∈ lw_tbl := z_in (List.mem_of_getElem? (i := 1250) (by decide +kernel))
def CX11_tells_0 : List zEn := [(0, .bipush 10, 2, 10, 0), (2, .aload_n 0, 3, 0, 0), (3, .dup, 4, 0, 0), (4, .getfield 157, 7, 0, 150), (7, .dup_x1, 8, 0, 0), (8, .iconst 1, 9, 1, 0), (9, .iadd, 10, 0, 0), (10, .putfield 157, 13, 0, 150), (13, .imul, 14, 0, 0), (14, .istore 6, 16, 0, 0), (16, .aload_n 0, 17, 0, 0), (17, .getfield 69, 20, 0, 149), (20, .iload 6, 22, 0, 0), (22, .iload_n 1, 23, 0, 0), (23, .iastore, 24, 0, 0), (24, .aload_n 0, 25, 0, 0), (25, .getfield 69, 28, 0, 149), (28, .iload 6, 30, 0, 0), (30, .iconst 1, 31, 1, 0), (31, .iadd, 32, 0, 0), (32, .lload_n 2, 33, 0, 0), (33, .l2i, 34, 0, 0), (34, .iastore, 35, 0, 0), (35, .aload_n 0, 36, 0, 0), (36, .getfield 69, 39, 0, 149), (39, .iload 6, 41, 0, 0), (41, .iconst 2, 42, 2, 0), (42, .iadd, 43, 0, 0), (43, .iload 4, 45, 0, 0), (45, .iastore, 46, 0, 0)]
def CX11_tells_1 : List zEn := [(46, .aload_n 0, 47, 0, 0), (47, .getfield 69, 50, 0, 149), (50, .iload 6, 52, 0, 0), (52, .iconst 3, 53, 3, 0), (53, .iadd, 54, 0, 0), (54, .iload 5, 56, 0, 0), (56, .ifCond .eq 7, 59, 0, 63), (59, .iconst 1, 60, 1, 0), (60, .goto 4, 63, 0, 64), (63, .iconst 0, 64, 0, 0), (64, .iastore, 65, 0, 0), (65, .aload_n 0, 66, 0, 0), (66, .getfield 69, 69, 0, 149), (69, .iload 6, 71, 0, 0), (71, .iconst 4, 72, 4, 0), (72, .iadd, 73, 0, 0), (73, .iconst 0, 74, 0, 0), (74, .iastore, 75, 0, 0), (75, .aload_n 0, 76, 0, 0), (76, .getfield 69, 79, 0, 149), (79, .iload 6, 81, 0, 0), (81, .iconst 5, 82, 5, 0), (82, .iadd, 83, 0, 0), (83, .iconst (-1), 84, (-1), 0), (84, .iastore, 85, 0, 0), (85, .aload_n 0, 86, 0, 0), (86, .getfield 69, 89, 0, 149), (89, .iload 6, 91, 0, 0), (91, .bipush 6, 93, 6, 0), (93, .iadd, 94, 0, 0)]
def CX11_tells_2 : List zEn := [(94, .iconst 0, 95, 0, 0), (95, .iastore, 96, 0, 0), (96, .aload_n 0, 97, 0, 0), (97, .getfield 69, 100, 0, 149), (100, .iload 6, 102, 0, 0), (102, .bipush 7, 104, 7, 0), (104, .iadd, 105, 0, 0), (105, .iconst 0, 106, 0, 0), (106, .iastore, 107, 0, 0), (107, .aload_n 0, 108, 0, 0), (108, .getfield 69, 111, 0, 149), (111, .iload 6, 113, 0, 0), (113, .bipush 8, 115, 8, 0), (115, .iadd, 116, 0, 0), (116, .iconst 0, 117, 0, 0), (117, .iastore, 118, 0, 0), (118, .aload_n 0, 119, 0, 0), (119, .getfield 69, 122, 0, 149), (122, .iload 6, 124, 0, 0), (124, .bipush 9, 126, 9, 0), (126, .iadd, 127, 0, 0), (127, .iconst 0, 128, 0, 0), (128, .iastore, 129, 0, 0), (129, .lload_n 2, 130, 0, 0), (130, .lconst 0, 131, 0, 0), (131, .lcmp, 132, 0, 0), (132, .ifCond .lt 13, 135, 0, 145), (135, .lload_n 2, 136, 0, 0), (136, .aload_n 0, 137, 0, 0), (137, .getfield 78, 140, 0, 124)]
def CX11_tells_3 : List zEn := [(140, .i2l, 141, 0, 0), (141, .lcmp, 142, 0, 0), (142, .ifCond .lt 4, 145, 0, 146), (145, .return_, 146, 0, 0), (146, .lload_n 2, 147, 0, 0), (147, .aload_n 0, 148, 0, 0), (148, .getfield 78, 151, 0, 124), (151, .bipush 8, 153, 8, 0), (153, .idiv, 154, 0, 0), (154, .i2l, 155, 0, 0), (155, .lcmp, 156, 0, 0), (156, .ifCond .ge 48, 159, 0, 204), (159, .iconst 0, 160, 0, 0), (160, .istore 7, 162, 0, 0), (162, .iload 7, 164, 0, 0), (164, .aload_n 0, 165, 0, 0), (165, .getfield 92, 168, 0, 130), (168, .if_icmp .ge 33, 171, 0, 201), (171, .aload_n 0, 172, 0, 0), (172, .iload 6, 174, 0, 0), (174, .lload_n 2, 175, 0, 0), (175, .iconst 1, 176, 1, 0), (176, .iload 7, 178, 0, 0), (178, .aload_n 0, 179, 0, 0), (179, .getfield 17, 182, 0, 128), (182, .iload 7, 184, 0, 0), (184, .iaload, 185, 0, 0), (185, .aload_n 0, 186, 0, 0), (186, .getfield 20, 189, 0, 129), (189, .iload 7, 191, 0, 0)]
def CX11_tells_4 : List zEn := [(191, .iaload, 192, 0, 0), (192, .invokevirtual 160, 195, 0, 236), (195, .iinc 7 1, 198, 1, 0), (198, .goto (-36), 201, 0, 162), (201, .goto 131, 204, 0, 332), (204, .lload_n 2, 205, 0, 0), (205, .aload_n 0, 206, 0, 0), (206, .getfield 78, 209, 0, 124), (209, .iconst 4, 210, 4, 0), (210, .idiv, 211, 0, 0), (211, .i2l, 212, 0, 0), (212, .lcmp, 213, 0, 0), (213, .ifCond .ge 66, 216, 0, 279), (216, .iconst 0, 217, 0, 0), (217, .istore 7, 219, 0, 0), (219, .iload 7, 221, 0, 0), (221, .iconst 4, 222, 4, 0), (222, .aload_n 0, 223, 0, 0), (223, .getfield 102, 226, 0, 137), (226, .imul, 227, 0, 0), (227, .if_icmp .ge 49, 230, 0, 276), (230, .iload 7, 232, 0, 0), (232, .iconst 4, 233, 4, 0), (233, .irem, 234, 0, 0), (234, .aload_n 0, 235, 0, 0), (235, .getfield 29, 238, 0, 133), (238, .iload 7, 240, 0, 0), (240, .iconst 4, 241, 4, 0), (241, .idiv, 242, 0, 0), (242, .iaload, 243, 0, 0)]
def CX11_tells_5 : List zEn := [(243, .if_icmp .ge 27, 246, 0, 270), (246, .aload_n 0, 247, 0, 0), (247, .iload 6, 249, 0, 0), (249, .lload_n 2, 250, 0, 0), (250, .iconst 2, 251, 2, 0), (251, .iload 7, 253, 0, 0), (253, .aload_n 0, 254, 0, 0), (254, .getfield 32, 257, 0, 134), (257, .iload 7, 259, 0, 0), (259, .iaload, 260, 0, 0), (260, .aload_n 0, 261, 0, 0), (261, .getfield 35, 264, 0, 135), (264, .iload 7, 266, 0, 0), (266, .iaload, 267, 0, 0), (267, .invokevirtual 160, 270, 0, 236), (270, .iinc 7 1, 273, 1, 0), (273, .goto (-54), 276, 0, 219), (276, .goto 56, 279, 0, 332), (279, .iconst 0, 280, 0, 0), (280, .istore 7, 282, 0, 0), (282, .iload 7, 284, 0, 0), (284, .aload_n 0, 285, 0, 0), (285, .getfield 117, 288, 0, 146), (288, .if_icmp .ge 44, 291, 0, 332), (291, .aload_n 0, 292, 0, 0), (292, .getfield 51, 295, 0, 141), (295, .iload 7, 297, 0, 0), (297, .iaload, 298, 0, 0), (298, .iconst 2, 299, 2, 0), (299, .if_icmp .eq 27, 302, 0, 326)]
def CX11_tells_6 : List zEn := [(302, .aload_n 0, 303, 0, 0), (303, .iload 6, 305, 0, 0), (305, .lload_n 2, 306, 0, 0), (306, .iconst 3, 307, 3, 0), (307, .iload 7, 309, 0, 0), (309, .aload_n 0, 310, 0, 0), (310, .getfield 42, 313, 0, 138), (313, .iload 7, 315, 0, 0), (315, .iaload, 316, 0, 0), (316, .aload_n 0, 317, 0, 0), (317, .getfield 45, 320, 0, 139), (320, .iload 7, 322, 0, 0), (322, .iaload, 323, 0, 0), (323, .invokevirtual 160, 326, 0, 236), (326, .iinc 7 1, 329, 1, 0), (329, .goto (-47), 332, 0, 282), (332, .aload_n 0, 333, 0, 0), (333, .getfield 69, 336, 0, 149), (336, .iload 6, 338, 0, 0), (338, .iconst 4, 339, 4, 0), (339, .iadd, 340, 0, 0), (340, .iaload, 341, 0, 0), (341, .iconst 3, 342, 3, 0), (342, .if_icmp .ne 51, 345, 0, 393), (345, .aload_n 0, 346, 0, 0), (346, .getfield 69, 349, 0, 149), (349, .iload 6, 351, 0, 0), (351, .bipush 8, 353, 8, 0), (353, .iadd, 354, 0, 0), (354, .aload_n 0, 355, 0, 0)]
def CX11_tells_7 : List zEn := [(355, .getfield 60, 358, 0, 144), (358, .aload_n 0, 359, 0, 0), (359, .getfield 69, 362, 0, 149), (362, .iload 6, 364, 0, 0), (364, .iconst 5, 365, 5, 0), (365, .iadd, 366, 0, 0), (366, .iaload, 367, 0, 0), (367, .iaload, 368, 0, 0), (368, .iastore, 369, 0, 0), (369, .aload_n 0, 370, 0, 0), (370, .getfield 69, 373, 0, 149), (373, .iload 6, 375, 0, 0), (375, .bipush 9, 377, 9, 0), (377, .iadd, 378, 0, 0), (378, .aload_n 0, 379, 0, 0), (379, .getfield 63, 382, 0, 145), (382, .aload_n 0, 383, 0, 0), (383, .getfield 69, 386, 0, 149), (386, .iload 6, 388, 0, 0), (388, .iconst 5, 389, 5, 0), (389, .iadd, 390, 0, 0), (390, .iaload, 391, 0, 0), (391, .iaload, 392, 0, 0), (392, .iastore, 393, 0, 0), (393, .return_, 394, 0, 0)]
def MX11_tells : zMI := (yX11_tells, cX11_tells, 8, none, [(46, CX11_tells_0), (94, CX11_tells_1), (140, CX11_tells_2), (191, CX11_tells_3), (243, CX11_tells_4), (302, CX11_tells_5), (355, CX11_tells_6), (99999, CX11_tells_7)], [])
theorem DX11_tells_0 : CX11_tells_0.all (zchk cX11_tells) = true := by decide +kernel
theorem DX11_tells_1 : CX11_tells_1.all (zchk cX11_tells) = true := by decide +kernel
theorem DX11_tells_2 : CX11_tells_2.all (zchk cX11_tells) = true := by decide +kernel
theorem DX11_tells_3 : CX11_tells_3.all (zchk cX11_tells) = true := by decide +kernel
theorem DX11_tells_4 : CX11_tells_4.all (zchk cX11_tells) = true := by decide +kernel
theorem DX11_tells_5 : CX11_tells_5.all (zchk cX11_tells) = true := by decide +kernel
theorem DX11_tells_6 : CX11_tells_6.all (zchk cX11_tells) = true := by decide +kernel
theorem DX11_tells_7 : CX11_tells_7.all (zchk cX11_tells) = true := by decide +kernel
theorem OX11_tells : zMOK MX11_tells := by
  intro q hq e he
  simp only [MX11_tells, zFt, List.mem_cons, List.not_mem_nil, or_false] at hq
  rcases hq with rfl | rfl | rfl | rfl | rfl | rfl | rfl | rfl
  · exact List.all_eq_true.mp DX11_tells_0 e he
  · exact List.all_eq_true.mp DX11_tells_1 e he
  · exact List.all_eq_true.mp DX11_tells_2 e he
  · exact List.all_eq_true.mp DX11_tells_3 e he
  · exact List.all_eq_true.mp DX11_tells_4 e he
  · exact List.all_eq_true.mp DX11_tells_5 e he
  · exact List.all_eq_true.mp DX11_tells_6 e he
  · exact List.all_eq_true.mp DX11_tells_7 e he
theorem KX11_tells : zMK MX11_tells := ⟨OX11_tells, by decide +kernel, z_in (List.mem_of_getElem? (i := 1244) (by decide +kernel)), z_in (List.mem_of_getElem? (i := 11) (by decide +kernel)), by decide +kernel, by decide +kernel⟩
theorem IX11_tells : Jvm.Cond.instanceMethod yX11_tells ∈ lw_tbl := z_in (List.mem_of_getElem? (i := 1243) (by decide +kernel))
theorem VX11_tells : Jvm.Cond.selects "ShadowWardModel" yX11_tells yX11_tells ∈ lw_tbl := List.mem_append_left _ (List.mem_of_getElem? (i := 34) (by decide +kernel))
def CX11_regionAt_0 : List zEn := [(0, .iload_n 1, 1, 0, 0), (1, .iconst 1, 2, 1, 0), (2, .if_icmp .ne 12, 5, 0, 14), (5, .aload_n 0, 6, 0, 0), (6, .getfield 17, 9, 0, 128), (9, .iload_n 2, 10, 0, 0), (10, .iaload, 11, 0, 0), (11, .goto 23, 14, 0, 34), (14, .iload_n 1, 15, 0, 0), (15, .iconst 2, 16, 2, 0), (16, .if_icmp .ne 12, 19, 0, 28), (19, .aload_n 0, 20, 0, 0), (20, .getfield 32, 23, 0, 134), (23, .iload_n 2, 24, 0, 0), (24, .iaload, 25, 0, 0), (25, .goto 9, 28, 0, 34), (28, .aload_n 0, 29, 0, 0), (29, .getfield 42, 32, 0, 138), (32, .iload_n 2, 33, 0, 0), (33, .iaload, 34, 0, 0), (34, .ireturn, 35, 0, 0)]
def MX11_regionAt : zMI := (yX11_regionAt, cX11_regionAt, 3, (some .int), [(99999, CX11_regionAt_0)], [])
theorem DX11_regionAt_0 : CX11_regionAt_0.all (zchk cX11_regionAt) = true := by decide +kernel
theorem OX11_regionAt : zMOK MX11_regionAt := by
  intro q hq e he
  simp only [MX11_regionAt, zFt, List.mem_cons, List.not_mem_nil, or_false] at hq
  rcases hq with rfl
  · exact List.all_eq_true.mp DX11_regionAt_0 e he
theorem KX11_regionAt : zMK MX11_regionAt := ⟨OX11_regionAt, by decide +kernel, z_in (List.mem_of_getElem? (i := 1255) (by decide +kernel)), z_in (List.mem_of_getElem? (i := 11) (by decide +kernel)), by decide +kernel, by decide +kernel⟩
theorem IX11_regionAt : Jvm.Cond.instanceMethod yX11_regionAt ∈ lw_tbl := z_in (List.mem_of_getElem? (i := 1254) (by decide +kernel))
theorem VX11_regionAt : Jvm.Cond.selects "ShadowWardModel" yX11_regionAt yX11_regionAt ∈ lw_tbl := List.mem_append_left _ (List.mem_of_getElem? (i := 36) (by decide +kernel))
def CX11_nearer_0 : List zEn := [(0, .lload_n 2, 1, 0, 0), (1, .iload 6, 3, 0, 0), (3, .iload 7, 5, 0, 0), (5, .invokestatic 164, 8, 0, 237), (8, .l2i, 9, 0, 0), (9, .istore 8, 11, 0, 0), (11, .aload_n 0, 12, 0, 0), (12, .getfield 69, 15, 0, 149), (15, .iload_n 1, 16, 0, 0), (16, .iconst 4, 17, 4, 0), (17, .iadd, 18, 0, 0), (18, .iaload, 19, 0, 0), (19, .ifCond .eq 50, 22, 0, 69), (22, .iload 8, 24, 0, 0), (24, .aload_n 0, 25, 0, 0), (25, .getfield 69, 28, 0, 149), (28, .iload_n 1, 29, 0, 0), (29, .bipush 6, 31, 6, 0), (31, .iadd, 32, 0, 0), (32, .iaload, 33, 0, 0), (33, .if_icmp .lt 36, 36, 0, 69), (36, .iload 8, 38, 0, 0), (38, .aload_n 0, 39, 0, 0), (39, .getfield 69, 42, 0, 149), (42, .iload_n 1, 43, 0, 0), (43, .bipush 6, 45, 6, 0), (45, .iadd, 46, 0, 0), (46, .iaload, 47, 0, 0), (47, .if_icmp .ne 26, 50, 0, 73), (50, .iload 6, 52, 0, 0)]
def CX11_nearer_1 : List zEn := [(52, .aload_n 0, 53, 0, 0), (53, .iload 4, 55, 0, 0), (55, .aload_n 0, 56, 0, 0), (56, .getfield 69, 59, 0, 149), (59, .iload_n 1, 60, 0, 0), (60, .iconst 5, 61, 5, 0), (61, .iadd, 62, 0, 0), (62, .iaload, 63, 0, 0), (63, .invokevirtual 168, 66, 0, 238), (66, .if_icmp .ge 7, 69, 0, 73), (69, .iconst 1, 70, 1, 0), (70, .goto 4, 73, 0, 74), (73, .iconst 0, 74, 0, 0), (74, .istore 9, 76, 0, 0), (76, .iload 9, 78, 0, 0), (78, .ifCond .ne 4, 81, 0, 82), (81, .return_, 82, 0, 0), (82, .aload_n 0, 83, 0, 0), (83, .getfield 69, 86, 0, 149), (86, .iload_n 1, 87, 0, 0), (87, .iconst 4, 88, 4, 0), (88, .iadd, 89, 0, 0), (89, .iload 4, 91, 0, 0), (91, .iastore, 92, 0, 0), (92, .aload_n 0, 93, 0, 0), (93, .getfield 69, 96, 0, 149), (96, .iload_n 1, 97, 0, 0), (97, .iconst 5, 98, 5, 0), (98, .iadd, 99, 0, 0), (99, .iload 5, 101, 0, 0)]
def CX11_nearer_2 : List zEn := [(101, .iastore, 102, 0, 0), (102, .aload_n 0, 103, 0, 0), (103, .getfield 69, 106, 0, 149), (106, .iload_n 1, 107, 0, 0), (107, .bipush 6, 109, 6, 0), (109, .iadd, 110, 0, 0), (110, .iload 8, 112, 0, 0), (112, .iastore, 113, 0, 0), (113, .aload_n 0, 114, 0, 0), (114, .getfield 69, 117, 0, 149), (117, .iload_n 1, 118, 0, 0), (118, .bipush 7, 120, 7, 0), (120, .iadd, 121, 0, 0), (121, .iload 8, 123, 0, 0), (123, .ifCond .ne 7, 126, 0, 130), (126, .iconst 0, 127, 0, 0), (127, .goto 16, 130, 0, 143), (130, .lload_n 2, 131, 0, 0), (131, .iload 6, 133, 0, 0), (133, .i2l, 134, 0, 0), (134, .lcmp, 135, 0, 0), (135, .ifCond .ge 7, 138, 0, 142), (138, .iconst 2, 139, 2, 0), (139, .goto 4, 142, 0, 143), (142, .iconst 1, 143, 1, 0), (143, .iastore, 144, 0, 0), (144, .return_, 145, 0, 0)]
def MX11_nearer : zMI := (yX11_nearer, cX11_nearer, 10, none, [(52, CX11_nearer_0), (101, CX11_nearer_1), (99999, CX11_nearer_2)], [])
theorem DX11_nearer_0 : CX11_nearer_0.all (zchk cX11_nearer) = true := by decide +kernel
theorem DX11_nearer_1 : CX11_nearer_1.all (zchk cX11_nearer) = true := by decide +kernel
theorem DX11_nearer_2 : CX11_nearer_2.all (zchk cX11_nearer) = true := by decide +kernel
theorem OX11_nearer : zMOK MX11_nearer := by
  intro q hq e he
  simp only [MX11_nearer, zFt, List.mem_cons, List.not_mem_nil, or_false] at hq
  rcases hq with rfl | rfl | rfl
  · exact List.all_eq_true.mp DX11_nearer_0 e he
  · exact List.all_eq_true.mp DX11_nearer_1 e he
  · exact List.all_eq_true.mp DX11_nearer_2 e he
theorem KX11_nearer : zMK MX11_nearer := ⟨OX11_nearer, by decide +kernel, z_in (List.mem_of_getElem? (i := 1248) (by decide +kernel)), z_in (List.mem_of_getElem? (i := 11) (by decide +kernel)), by decide +kernel, by decide +kernel⟩
theorem IX11_nearer : Jvm.Cond.instanceMethod yX11_nearer ∈ lw_tbl := z_in (List.mem_of_getElem? (i := 1247) (by decide +kernel))
theorem VX11_nearer : Jvm.Cond.selects "ShadowWardModel" yX11_nearer yX11_nearer ∈ lw_tbl := List.mem_append_left _ (List.mem_of_getElem? (i := 35) (by decide +kernel))
def CX11_wrong_0 : List zEn := [(0, .lload_n 1, 1, 0, 0), (1, .lconst 0, 2, 0, 0), (2, .lcmp, 3, 0, 0), (3, .ifCond .lt 13, 6, 0, 16), (6, .lload_n 1, 7, 0, 0), (7, .aload_n 0, 8, 0, 0), (8, .getfield 78, 11, 0, 124), (11, .i2l, 12, 0, 0), (12, .lcmp, 13, 0, 0), (13, .ifCond .lt 6, 16, 0, 19), (16, .bipush 9, 18, 9, 0), (18, .ireturn, 19, 0, 0), (19, .lload_n 1, 20, 0, 0), (20, .l2i, 21, 0, 0), (21, .bipush 8, 23, 8, 0), (23, .idiv, 24, 0, 0), (24, .istore_n 3, 25, 0, 0), (25, .aload_n 0, 26, 0, 0), (26, .getfield 13, 29, 0, 127), (29, .iload_n 3, 30, 0, 0), (30, .iaload, 31, 0, 0), (31, .istore 4, 33, 0, 0), (33, .iload 4, 35, 0, 0), (35, .ifCond .eq 22, 38, 0, 57), (38, .iload 4, 40, 0, 0), (40, .bipush 8, 42, 8, 0), (42, .if_icmp .ge 17, 45, 0, 59), (45, .lload_n 1, 46, 0, 0), (46, .ldc2_w 171, 49, 0, 0), (49, .lrem, 50, 0, 0)]
def CX11_wrong_1 : List zEn := [(50, .iload 4, 52, 0, 0), (52, .i2l, 53, 0, 0), (53, .lcmp, 54, 0, 0), (54, .ifCond .ge 5, 57, 0, 59), (57, .iconst 0, 58, 0, 0), (58, .ireturn, 59, 0, 0), (59, .iload 4, 61, 0, 0), (61, .bipush 8, 63, 8, 0), (63, .if_icmp .ge 13, 66, 0, 76), (66, .aload_n 0, 67, 0, 0), (67, .getfield 13, 70, 0, 127), (70, .iload_n 3, 71, 0, 0), (71, .iconst 1, 72, 1, 0), (72, .iadd, 73, 0, 0), (73, .iaload, 74, 0, 0), (74, .istore 4, 76, 0, 0), (76, .iload 4, 78, 0, 0), (78, .sipush 250, 81, 250, 0), (81, .if_icmp .ne 7, 84, 0, 88), (84, .iconst 1, 85, 1, 0), (85, .goto 87, 88, 0, 172), (88, .iload 4, 90, 0, 0), (90, .sipush 253, 93, 253, 0), (93, .if_icmp .ne 7, 96, 0, 100), (96, .iconst 2, 97, 2, 0), (97, .goto 75, 100, 0, 172), (100, .iload 4, 102, 0, 0), (102, .sipush 241, 105, 241, 0), (105, .if_icmp .ne 7, 108, 0, 112), (108, .iconst 3, 109, 3, 0)]
def CX11_wrong_2 : List zEn := [(109, .goto 63, 112, 0, 172), (112, .iload 4, 114, 0, 0), (114, .sipush 242, 117, 242, 0), (117, .if_icmp .eq 11, 120, 0, 128), (120, .iload 4, 122, 0, 0), (122, .sipush 243, 125, 243, 0), (125, .if_icmp .ne 7, 128, 0, 132), (128, .iconst 4, 129, 4, 0), (129, .goto 43, 132, 0, 172), (132, .iload 4, 134, 0, 0), (134, .sipush 245, 137, 245, 0), (137, .if_icmp .ne 7, 140, 0, 144), (140, .iconst 5, 141, 5, 0), (141, .goto 31, 144, 0, 172), (144, .iload 4, 146, 0, 0), (146, .sipush 248, 149, 248, 0), (149, .if_icmp .ne 8, 152, 0, 157), (152, .bipush 6, 154, 6, 0), (154, .goto 18, 157, 0, 172), (157, .iload 4, 159, 0, 0), (159, .sipush 249, 162, 249, 0), (162, .if_icmp .ne 8, 165, 0, 170), (165, .bipush 7, 167, 7, 0), (167, .goto 5, 170, 0, 172), (170, .bipush 8, 172, 8, 0), (172, .ireturn, 173, 0, 0)]
def MX11_wrong : zMI := (yX11_wrong, cX11_wrong, 5, (some .int), [(50, CX11_wrong_0), (109, CX11_wrong_1), (99999, CX11_wrong_2)], [])
theorem DX11_wrong_0 : CX11_wrong_0.all (zchk cX11_wrong) = true := by decide +kernel
theorem DX11_wrong_1 : CX11_wrong_1.all (zchk cX11_wrong) = true := by decide +kernel
theorem DX11_wrong_2 : CX11_wrong_2.all (zchk cX11_wrong) = true := by decide +kernel
theorem OX11_wrong : zMOK MX11_wrong := by
  intro q hq e he
  simp only [MX11_wrong, zFt, List.mem_cons, List.not_mem_nil, or_false] at hq
  rcases hq with rfl | rfl | rfl
  · exact List.all_eq_true.mp DX11_wrong_0 e he
  · exact List.all_eq_true.mp DX11_wrong_1 e he
  · exact List.all_eq_true.mp DX11_wrong_2 e he
theorem KX11_wrong : zMK MX11_wrong := ⟨OX11_wrong, by decide +kernel, z_in (List.mem_of_getElem? (i := 1279) (by decide +kernel)), z_in (List.mem_of_getElem? (i := 11) (by decide +kernel)), by decide +kernel, by decide +kernel⟩
theorem IX11_wrong : Jvm.Cond.instanceMethod yX11_wrong ∈ lw_tbl := z_in (List.mem_of_getElem? (i := 1278) (by decide +kernel))
theorem VX11_wrong : Jvm.Cond.selects "ShadowWardModel" yX11_wrong yX11_wrong ∈ lw_tbl := List.mem_append_left _ (List.mem_of_getElem? (i := 40) (by decide +kernel))
def CX11_right_0 : List zEn := [(0, .iload_n 3, 1, 0, 0), (1, .istore 7, 3, 0, 0), (3, .iload 7, 5, 0, 0), (5, .iload 4, 7, 0, 0), (7, .if_icmp .ge 45, 10, 0, 52), (10, .aload_n 0, 11, 0, 0), (11, .lload_n 1, 12, 0, 0), (12, .iload 7, 14, 0, 0), (14, .i2l, 15, 0, 0), (15, .ladd, 16, 0, 0), (16, .invokevirtual 173, 19, 0, 244), (19, .istore 8, 21, 0, 0), (21, .iload 8, 23, 0, 0), (23, .ifCond .ne 6, 26, 0, 29), (26, .goto 20, 29, 0, 46), (29, .aload_n 0, 30, 0, 0), (30, .iload 8, 32, 0, 0), (32, .lload_n 1, 33, 0, 0), (33, .iload 7, 35, 0, 0), (35, .i2l, 36, 0, 0), (36, .ladd, 37, 0, 0), (37, .iload 5, 39, 0, 0), (39, .iload 6, 41, 0, 0), (41, .invokevirtual 147, 44, 0, 235), (44, .iconst 0, 45, 0, 0), (45, .ireturn, 46, 0, 0), (46, .iinc 7 1, 49, 1, 0), (49, .goto (-46), 52, 0, 3), (52, .iconst 1, 53, 1, 0), (53, .ireturn, 54, 0, 0)]
def MX11_right : zMI := (yX11_right, cX11_right, 9, (some .boolean), [(99999, CX11_right_0)], [])
theorem DX11_right_0 : CX11_right_0.all (zchk cX11_right) = true := by decide +kernel
theorem OX11_right : zMOK MX11_right := by
  intro q hq e he
  simp only [MX11_right, zFt, List.mem_cons, List.not_mem_nil, or_false] at hq
  rcases hq with rfl
  · exact List.all_eq_true.mp DX11_right_0 e he
theorem KX11_right : zMK MX11_right := ⟨OX11_right, by decide +kernel, z_in (List.mem_of_getElem? (i := 1275) (by decide +kernel)), z_in (List.mem_of_getElem? (i := 11) (by decide +kernel)), by decide +kernel, by decide +kernel⟩
theorem IX11_right : Jvm.Cond.instanceMethod yX11_right ∈ lw_tbl := z_in (List.mem_of_getElem? (i := 1274) (by decide +kernel))
theorem VX11_right : Jvm.Cond.selects "ShadowWardModel" yX11_right yX11_right ∈ lw_tbl := List.mem_append_left _ (List.mem_of_getElem? (i := 39) (by decide +kernel))
def CX11_load_0 : List zEn := [(0, .aload_n 0, 1, 0, 0), (1, .iload_n 2, 2, 0, 0), (2, .iconst 1, 3, 1, 0), (3, .if_icmp .lt 9, 6, 0, 12), (6, .iload_n 2, 7, 0, 0), (7, .bipush 8, 9, 8, 0), (9, .if_icmp .le 7, 12, 0, 16), (12, .iconst 1, 13, 1, 0), (13, .goto 4, 16, 0, 17), (16, .iconst 0, 17, 0, 0), (17, .invokevirtual 88, 20, 0, 216), (20, .ifCond .ne 16, 23, 0, 36), (23, .aload_n 0, 24, 0, 0), (24, .iload_n 1, 25, 0, 0), (25, .i2l, 26, 0, 0), (26, .iconst 0, 27, 0, 0), (27, .iload_n 2, 28, 0, 0), (28, .iload_n 2, 29, 0, 0), (29, .iconst 0, 30, 0, 0), (30, .invokevirtual 177, 33, 0, 243), (33, .ifCond .ne 5, 36, 0, 38), (36, .lconst 0, 37, 0, 0), (37, .lreturn, 38, 0, 0), (38, .lconst 0, 39, 0, 0), (39, .lstore_n 3, 40, 0, 0), (40, .iload_n 2, 41, 0, 0), (41, .iconst 1, 42, 1, 0), (42, .isub, 43, 0, 0), (43, .istore 5, 45, 0, 0), (45, .iload 5, 47, 0, 0)]
def CX11_load_1 : List zEn := [(47, .ifCond .lt 29, 50, 0, 76), (50, .lload_n 3, 51, 0, 0), (51, .bipush 8, 53, 8, 0), (53, .lshl, 54, 0, 0), (54, .aload_n 0, 55, 0, 0), (55, .getfield 7, 58, 0, 126), (58, .iload_n 1, 59, 0, 0), (59, .iload 5, 61, 0, 0), (61, .iadd, 62, 0, 0), (62, .baload, 63, 0, 0), (63, .sipush 255, 66, 255, 0), (66, .iand, 67, 0, 0), (67, .i2l, 68, 0, 0), (68, .lor, 69, 0, 0), (69, .lstore_n 3, 70, 0, 0), (70, .iinc 5 (-1), 73, (-1), 0), (73, .goto (-28), 76, 0, 45), (76, .lload_n 3, 77, 0, 0), (77, .lreturn, 78, 0, 0)]
def MX11_load : zMI := (yX11_load, cX11_load, 6, (some .long), [(47, CX11_load_0), (99999, CX11_load_1)], [])
theorem DX11_load_0 : CX11_load_0.all (zchk cX11_load) = true := by decide +kernel
theorem DX11_load_1 : CX11_load_1.all (zchk cX11_load) = true := by decide +kernel
theorem OX11_load : zMOK MX11_load := by
  intro q hq e he
  simp only [MX11_load, zFt, List.mem_cons, List.not_mem_nil, or_false] at hq
  rcases hq with rfl | rfl
  · exact List.all_eq_true.mp DX11_load_0 e he
  · exact List.all_eq_true.mp DX11_load_1 e he
theorem KX11_load : zMK MX11_load := ⟨OX11_load, by decide +kernel, z_in (List.mem_of_getElem? (i := 1271) (by decide +kernel)), z_in (List.mem_of_getElem? (i := 11) (by decide +kernel)), by decide +kernel, by decide +kernel⟩
theorem IX11_load : Jvm.Cond.instanceMethod yX11_load ∈ lw_tbl := z_in (List.mem_of_getElem? (i := 1269) (by decide +kernel))
theorem VX11_load : Jvm.Cond.selects "ShadowWardModel" yX11_load yX11_load ∈ lw_tbl := z_in (List.mem_of_getElem? (i := 1270) (by decide +kernel))
def CX11_store_0 : List zEn := [(0, .aload_n 0, 1, 0, 0), (1, .iload_n 2, 2, 0, 0), (2, .iconst 1, 3, 1, 0), (3, .if_icmp .lt 9, 6, 0, 12), (6, .iload_n 2, 7, 0, 0), (7, .bipush 8, 9, 8, 0), (9, .if_icmp .le 7, 12, 0, 16), (12, .iconst 1, 13, 1, 0), (13, .goto 4, 16, 0, 17), (16, .iconst 0, 17, 0, 0), (17, .invokevirtual 88, 20, 0, 216), (20, .ifCond .ne 16, 23, 0, 36), (23, .aload_n 0, 24, 0, 0), (24, .iload_n 1, 25, 0, 0), (25, .i2l, 26, 0, 0), (26, .iconst 0, 27, 0, 0), (27, .iload_n 2, 28, 0, 0), (28, .iload_n 2, 29, 0, 0), (29, .iconst 1, 30, 1, 0), (30, .invokevirtual 177, 33, 0, 243), (33, .ifCond .ne 5, 36, 0, 38), (36, .iconst 0, 37, 0, 0), (37, .ireturn, 38, 0, 0), (38, .iconst 0, 39, 0, 0), (39, .istore 5, 41, 0, 0), (41, .iload 5, 43, 0, 0), (43, .iload_n 2, 44, 0, 0), (44, .if_icmp .ge 27, 47, 0, 71), (47, .aload_n 0, 48, 0, 0), (48, .getfield 7, 51, 0, 126)]
def CX11_store_1 : List zEn := [(51, .iload_n 1, 52, 0, 0), (52, .iload 5, 54, 0, 0), (54, .iadd, 55, 0, 0), (55, .lload_n 3, 56, 0, 0), (56, .bipush 8, 58, 8, 0), (58, .iload 5, 60, 0, 0), (60, .imul, 61, 0, 0), (61, .lushr, 62, 0, 0), (62, .l2i, 63, 0, 0), (63, .i2b, 64, 0, 0), (64, .bastore, 65, 0, 0), (65, .iinc 5 1, 68, 1, 0), (68, .goto (-27), 71, 0, 41), (71, .iconst 1, 72, 1, 0), (72, .ireturn, 73, 0, 0)]
def MX11_store : zMI := (yX11_store, cX11_store, 6, (some .boolean), [(51, CX11_store_0), (99999, CX11_store_1)], [])
theorem DX11_store_0 : CX11_store_0.all (zchk cX11_store) = true := by decide +kernel
theorem DX11_store_1 : CX11_store_1.all (zchk cX11_store) = true := by decide +kernel
theorem OX11_store : zMOK MX11_store := by
  intro q hq e he
  simp only [MX11_store, zFt, List.mem_cons, List.not_mem_nil, or_false] at hq
  rcases hq with rfl | rfl
  · exact List.all_eq_true.mp DX11_store_0 e he
  · exact List.all_eq_true.mp DX11_store_1 e he
theorem KX11_store : zMK MX11_store := ⟨OX11_store, by decide +kernel, z_in (List.mem_of_getElem? (i := 1284) (by decide +kernel)), z_in (List.mem_of_getElem? (i := 11) (by decide +kernel)), by decide +kernel, by decide +kernel⟩
theorem IX11_store : Jvm.Cond.instanceMethod yX11_store ∈ lw_tbl := z_in (List.mem_of_getElem? (i := 1282) (by decide +kernel))
theorem VX11_store : Jvm.Cond.selects "ShadowWardModel" yX11_store yX11_store ∈ lw_tbl := z_in (List.mem_of_getElem? (i := 1283) (by decide +kernel))
def CX11_noAmount_0 : List zEn := [(0, .iload_n 1, 1, 0, 0), (1, .ifCond .lt 11, 4, 0, 12), (4, .iload_n 1, 5, 0, 0), (5, .aload_n 0, 6, 0, 0), (6, .getfield 78, 9, 0, 124), (9, .if_icmp .le 7, 12, 0, 16), (12, .iconst 1, 13, 1, 0), (13, .goto 4, 16, 0, 17), (16, .iconst 0, 17, 0, 0), (17, .ireturn, 18, 0, 0)]
def MX11_noAmount : zMI := (yX11_noAmount, cX11_noAmount, 2, (some .boolean), [(99999, CX11_noAmount_0)], [])
theorem DX11_noAmount_0 : CX11_noAmount_0.all (zchk cX11_noAmount) = true := by decide +kernel
theorem OX11_noAmount : zMOK MX11_noAmount := by
  intro q hq e he
  simp only [MX11_noAmount, zFt, List.mem_cons, List.not_mem_nil, or_false] at hq
  rcases hq with rfl
  · exact List.all_eq_true.mp DX11_noAmount_0 e he
theorem KX11_noAmount : zMK MX11_noAmount := ⟨OX11_noAmount, by decide +kernel, z_in (List.mem_of_getElem? (i := 1292) (by decide +kernel)), z_in (List.mem_of_getElem? (i := 11) (by decide +kernel)), by decide +kernel, by decide +kernel⟩
theorem IX11_noAmount : Jvm.Cond.instanceMethod yX11_noAmount ∈ lw_tbl := z_in (List.mem_of_getElem? (i := 1291) (by decide +kernel))
theorem VX11_noAmount : Jvm.Cond.selects "ShadowWardModel" yX11_noAmount yX11_noAmount ∈ lw_tbl := List.mem_append_left _ (List.mem_of_getElem? (i := 41) (by decide +kernel))
def CX11_fill_0 : List zEn := [(0, .aload_n 0, 1, 0, 0), (1, .aload_n 0, 2, 0, 0), (2, .iload_n 2, 3, 0, 0), (3, .invokevirtual 181, 6, 0, 247), (6, .ifCond .eq 7, 9, 0, 13), (9, .iconst 1, 10, 1, 0), (10, .goto 4, 13, 0, 14), (13, .iconst 0, 14, 0, 0), (14, .invokevirtual 88, 17, 0, 216), (17, .ifCond .ne 16, 20, 0, 33), (20, .aload_n 0, 21, 0, 0), (21, .iload_n 1, 22, 0, 0), (22, .i2l, 23, 0, 0), (23, .iconst 0, 24, 0, 0), (24, .iload_n 2, 25, 0, 0), (25, .iload_n 2, 26, 0, 0), (26, .iconst 1, 27, 1, 0), (27, .invokevirtual 177, 30, 0, 243), (30, .ifCond .ne 5, 33, 0, 35), (33, .iconst 0, 34, 0, 0), (34, .ireturn, 35, 0, 0), (35, .iconst 0, 36, 0, 0), (36, .istore 4, 38, 0, 0), (38, .iload 4, 40, 0, 0), (40, .iload_n 2, 41, 0, 0), (41, .if_icmp .ge 20, 44, 0, 61), (44, .aload_n 0, 45, 0, 0), (45, .getfield 7, 48, 0, 126), (48, .iload_n 1, 49, 0, 0), (49, .iload 4, 51, 0, 0)]
def CX11_fill_1 : List zEn := [(51, .iadd, 52, 0, 0), (52, .iload_n 3, 53, 0, 0), (53, .i2b, 54, 0, 0), (54, .bastore, 55, 0, 0), (55, .iinc 4 1, 58, 1, 0), (58, .goto (-20), 61, 0, 38), (61, .iconst 1, 62, 1, 0), (62, .ireturn, 63, 0, 0)]
def MX11_fill : zMI := (yX11_fill, cX11_fill, 5, (some .boolean), [(51, CX11_fill_0), (99999, CX11_fill_1)], [])
theorem DX11_fill_0 : CX11_fill_0.all (zchk cX11_fill) = true := by decide +kernel
theorem DX11_fill_1 : CX11_fill_1.all (zchk cX11_fill) = true := by decide +kernel
theorem OX11_fill : zMOK MX11_fill := by
  intro q hq e he
  simp only [MX11_fill, zFt, List.mem_cons, List.not_mem_nil, or_false] at hq
  rcases hq with rfl | rfl
  · exact List.all_eq_true.mp DX11_fill_0 e he
  · exact List.all_eq_true.mp DX11_fill_1 e he
theorem KX11_fill : zMK MX11_fill := ⟨OX11_fill, by decide +kernel, z_in (List.mem_of_getElem? (i := 1288) (by decide +kernel)), z_in (List.mem_of_getElem? (i := 11) (by decide +kernel)), by decide +kernel, by decide +kernel⟩
theorem IX11_fill : Jvm.Cond.instanceMethod yX11_fill ∈ lw_tbl := z_in (List.mem_of_getElem? (i := 1286) (by decide +kernel))
theorem VX11_fill : Jvm.Cond.selects "ShadowWardModel" yX11_fill yX11_fill ∈ lw_tbl := z_in (List.mem_of_getElem? (i := 1287) (by decide +kernel))
def CX11_copies_0 : List zEn := [(0, .iload_n 1, 1, 0, 0), (1, .iload_n 2, 2, 0, 0), (2, .if_icmp .le 11, 5, 0, 13), (5, .iload_n 1, 6, 0, 0), (6, .i2l, 7, 0, 0), (7, .iload_n 2, 8, 0, 0), (8, .i2l, 9, 0, 0), (9, .lsub, 10, 0, 0), (10, .goto 8, 13, 0, 18), (13, .iload_n 2, 14, 0, 0), (14, .i2l, 15, 0, 0), (15, .iload_n 1, 16, 0, 0), (16, .i2l, 17, 0, 0), (17, .lsub, 18, 0, 0), (18, .lstore 5, 20, 0, 0), (20, .iload 4, 22, 0, 0), (22, .ifCond .ne 27, 25, 0, 49), (25, .iload_n 3, 26, 0, 0), (26, .ifCond .le 23, 29, 0, 49), (29, .lload 5, 31, 0, 0), (31, .iload_n 3, 32, 0, 0), (32, .i2l, 33, 0, 0), (33, .lcmp, 34, 0, 0), (34, .ifCond .ge 15, 37, 0, 49), (37, .aload_n 0, 38, 0, 0), (38, .bipush 13, 40, 13, 0), (40, .iload_n 1, 41, 0, 0), (41, .i2l, 42, 0, 0), (42, .iload_n 3, 43, 0, 0), (43, .iconst 1, 44, 1, 0)]
def CX11_copies_1 : List zEn := [(44, .invokevirtual 147, 47, 0, 235), (47, .iconst 0, 48, 0, 0), (48, .ireturn, 49, 0, 0), (49, .aload_n 0, 50, 0, 0), (50, .iload_n 2, 51, 0, 0), (51, .i2l, 52, 0, 0), (52, .iconst 0, 53, 0, 0), (53, .iload_n 3, 54, 0, 0), (54, .iload_n 3, 55, 0, 0), (55, .iconst 0, 56, 0, 0), (56, .invokevirtual 177, 59, 0, 243), (59, .ifCond .eq 16, 62, 0, 75), (62, .aload_n 0, 63, 0, 0), (63, .iload_n 1, 64, 0, 0), (64, .i2l, 65, 0, 0), (65, .iconst 0, 66, 0, 0), (66, .iload_n 3, 67, 0, 0), (67, .iload_n 3, 68, 0, 0), (68, .iconst 1, 69, 1, 0), (69, .invokevirtual 177, 72, 0, 243), (72, .ifCond .ne 5, 75, 0, 77), (75, .iconst 0, 76, 0, 0), (76, .ireturn, 77, 0, 0), (77, .iconst 0, 78, 0, 0), (78, .istore 7, 80, 0, 0), (80, .iload 7, 82, 0, 0), (82, .iload_n 3, 83, 0, 0), (83, .if_icmp .ge 25, 86, 0, 108), (86, .aload_n 0, 87, 0, 0), (87, .getfield 75, 90, 0, 152)]
def CX11_copies_2 : List zEn := [(90, .iload 7, 92, 0, 0), (92, .aload_n 0, 93, 0, 0), (93, .getfield 7, 96, 0, 126), (96, .iload_n 2, 97, 0, 0), (97, .iload 7, 99, 0, 0), (99, .iadd, 100, 0, 0), (100, .baload, 101, 0, 0), (101, .bastore, 102, 0, 0), (102, .iinc 7 1, 105, 1, 0), (105, .goto (-25), 108, 0, 80), (108, .iconst 0, 109, 0, 0), (109, .istore 7, 111, 0, 0), (111, .iload 7, 113, 0, 0), (113, .iload_n 3, 114, 0, 0), (114, .if_icmp .ge 25, 117, 0, 139), (117, .aload_n 0, 118, 0, 0), (118, .getfield 7, 121, 0, 126), (121, .iload_n 1, 122, 0, 0), (122, .iload 7, 124, 0, 0), (124, .iadd, 125, 0, 0), (125, .aload_n 0, 126, 0, 0), (126, .getfield 75, 129, 0, 152), (129, .iload 7, 131, 0, 0), (131, .baload, 132, 0, 0), (132, .bastore, 133, 0, 0), (133, .iinc 7 1, 136, 1, 0), (136, .goto (-25), 139, 0, 111), (139, .iconst 1, 140, 1, 0), (140, .ireturn, 141, 0, 0)]
def MX11_copies : zMI := (yX11_copies, cX11_copies, 8, (some .boolean), [(44, CX11_copies_0), (90, CX11_copies_1), (99999, CX11_copies_2)], [])
theorem DX11_copies_0 : CX11_copies_0.all (zchk cX11_copies) = true := by decide +kernel
theorem DX11_copies_1 : CX11_copies_1.all (zchk cX11_copies) = true := by decide +kernel
theorem DX11_copies_2 : CX11_copies_2.all (zchk cX11_copies) = true := by decide +kernel
theorem OX11_copies : zMOK MX11_copies := by
  intro q hq e he
  simp only [MX11_copies, zFt, List.mem_cons, List.not_mem_nil, or_false] at hq
  rcases hq with rfl | rfl | rfl
  · exact List.all_eq_true.mp DX11_copies_0 e he
  · exact List.all_eq_true.mp DX11_copies_1 e he
  · exact List.all_eq_true.mp DX11_copies_2 e he
theorem KX11_copies : zMK MX11_copies := ⟨OX11_copies, by decide +kernel, z_in (List.mem_of_getElem? (i := 1300) (by decide +kernel)), z_in (List.mem_of_getElem? (i := 11) (by decide +kernel)), by decide +kernel, by decide +kernel⟩
theorem IX11_copies : Jvm.Cond.instanceMethod yX11_copies ∈ lw_tbl := z_in (List.mem_of_getElem? (i := 1299) (by decide +kernel))
theorem VX11_copies : Jvm.Cond.selects "ShadowWardModel" yX11_copies yX11_copies ∈ lw_tbl := List.mem_append_left _ (List.mem_of_getElem? (i := 42) (by decide +kernel))
def CX11_copy_0 : List zEn := [(0, .aload_n 0, 1, 0, 0), (1, .aload_n 0, 2, 0, 0), (2, .iload_n 3, 3, 0, 0), (3, .invokevirtual 181, 6, 0, 247), (6, .ifCond .eq 7, 9, 0, 13), (9, .iconst 1, 10, 1, 0), (10, .goto 4, 13, 0, 14), (13, .iconst 0, 14, 0, 0), (14, .invokevirtual 88, 17, 0, 216), (17, .ifCond .ne 19, 20, 0, 36), (20, .aload_n 0, 21, 0, 0), (21, .iload_n 1, 22, 0, 0), (22, .iload_n 2, 23, 0, 0), (23, .iload_n 3, 24, 0, 0), (24, .iload 4, 26, 0, 0), (26, .invokevirtual 184, 29, 0, 249), (29, .ifCond .eq 7, 32, 0, 36), (32, .iconst 1, 33, 1, 0), (33, .goto 4, 36, 0, 37), (36, .iconst 0, 37, 0, 0), (37, .ireturn, 38, 0, 0)]
def MX11_copy : zMI := (yX11_copy, cX11_copy, 5, (some .boolean), [(99999, CX11_copy_0)], [])
theorem DX11_copy_0 : CX11_copy_0.all (zchk cX11_copy) = true := by decide +kernel
theorem OX11_copy : zMOK MX11_copy := by
  intro q hq e he
  simp only [MX11_copy, zFt, List.mem_cons, List.not_mem_nil, or_false] at hq
  rcases hq with rfl
  · exact List.all_eq_true.mp DX11_copy_0 e he
theorem KX11_copy : zMK MX11_copy := ⟨OX11_copy, by decide +kernel, z_in (List.mem_of_getElem? (i := 1296) (by decide +kernel)), z_in (List.mem_of_getElem? (i := 11) (by decide +kernel)), by decide +kernel, by decide +kernel⟩
theorem IX11_copy : Jvm.Cond.instanceMethod yX11_copy ∈ lw_tbl := z_in (List.mem_of_getElem? (i := 1294) (by decide +kernel))
theorem VX11_copy : Jvm.Cond.selects "ShadowWardModel" yX11_copy yX11_copy ∈ lw_tbl := z_in (List.mem_of_getElem? (i := 1295) (by decide +kernel))
def CX11_lengthOf_0 : List zEn := [(0, .iconst 0, 1, 0, 0), (1, .istore_n 2, 2, 0, 0), (2, .aload_n 0, 3, 0, 0), (3, .iload_n 1, 4, 0, 0), (4, .i2l, 5, 0, 0), (5, .iload_n 2, 6, 0, 0), (6, .iload_n 2, 7, 0, 0), (7, .iconst 1, 8, 1, 0), (8, .iadd, 9, 0, 0), (9, .iconst 1, 10, 1, 0), (10, .iconst 0, 11, 0, 0), (11, .invokevirtual 177, 14, 0, 243), (14, .ifCond .eq 22, 17, 0, 36), (17, .aload_n 0, 18, 0, 0), (18, .getfield 7, 21, 0, 126), (21, .iload_n 1, 22, 0, 0), (22, .iload_n 2, 23, 0, 0), (23, .iadd, 24, 0, 0), (24, .baload, 25, 0, 0), (25, .ifCond .ne 5, 28, 0, 30), (28, .iload_n 2, 29, 0, 0), (29, .ireturn, 30, 0, 0), (30, .iinc 2 1, 33, 1, 0), (33, .goto (-31), 36, 0, 2), (36, .iconst (-1), 37, (-1), 0), (37, .ireturn, 38, 0, 0)]
def MX11_lengthOf : zMI := (yX11_lengthOf, cX11_lengthOf, 3, (some .int), [(99999, CX11_lengthOf_0)], [])
theorem DX11_lengthOf_0 : CX11_lengthOf_0.all (zchk cX11_lengthOf) = true := by decide +kernel
theorem OX11_lengthOf : zMOK MX11_lengthOf := by
  intro q hq e he
  simp only [MX11_lengthOf, zFt, List.mem_cons, List.not_mem_nil, or_false] at hq
  rcases hq with rfl
  · exact List.all_eq_true.mp DX11_lengthOf_0 e he
theorem KX11_lengthOf : zMK MX11_lengthOf := ⟨OX11_lengthOf, by decide +kernel, z_in (List.mem_of_getElem? (i := 1308) (by decide +kernel)), z_in (List.mem_of_getElem? (i := 11) (by decide +kernel)), by decide +kernel, by decide +kernel⟩
theorem IX11_lengthOf : Jvm.Cond.instanceMethod yX11_lengthOf ∈ lw_tbl := z_in (List.mem_of_getElem? (i := 1307) (by decide +kernel))
theorem VX11_lengthOf : Jvm.Cond.selects "ShadowWardModel" yX11_lengthOf yX11_lengthOf ∈ lw_tbl := List.mem_append_left _ (List.mem_of_getElem? (i := 43) (by decide +kernel))
def CX11_length_0 : List zEn := [(0, .aload_n 0, 1, 0, 0), (1, .iconst 0, 2, 0, 0), (2, .putfield 85, 5, 0, 123), (5, .aload_n 0, 6, 0, 0), (6, .iload_n 1, 7, 0, 0), (7, .invokevirtual 188, 10, 0, 251), (10, .ireturn, 11, 0, 0)]
def MX11_length : zMI := (yX11_length, cX11_length, 2, (some .int), [(99999, CX11_length_0)], [])
theorem DX11_length_0 : CX11_length_0.all (zchk cX11_length) = true := by decide +kernel
theorem OX11_length : zMOK MX11_length := by
  intro q hq e he
  simp only [MX11_length, zFt, List.mem_cons, List.not_mem_nil, or_false] at hq
  rcases hq with rfl
  · exact List.all_eq_true.mp DX11_length_0 e he
theorem KX11_length : zMK MX11_length := ⟨OX11_length, by decide +kernel, z_in (List.mem_of_getElem? (i := 1304) (by decide +kernel)), z_in (List.mem_of_getElem? (i := 11) (by decide +kernel)), by decide +kernel, by decide +kernel⟩
theorem IX11_length : Jvm.Cond.instanceMethod yX11_length ∈ lw_tbl := z_in (List.mem_of_getElem? (i := 1302) (by decide +kernel))
theorem VX11_length : Jvm.Cond.selects "ShadowWardModel" yX11_length yX11_length ∈ lw_tbl := z_in (List.mem_of_getElem? (i := 1303) (by decide +kernel))
def CX11_text_0 : List zEn := [(0, .aload_n 0, 1, 0, 0), (1, .iconst 0, 2, 0, 0), (2, .putfield 85, 5, 0, 123), (5, .aload_n 0, 6, 0, 0), (6, .iload_n 2, 7, 0, 0), (7, .invokevirtual 188, 10, 0, 251), (10, .istore_n 3, 11, 0, 0), (11, .iload_n 3, 12, 0, 0), (12, .ifCond .lt 20, 15, 0, 32), (15, .aload_n 0, 16, 0, 0), (16, .iload_n 1, 17, 0, 0), (17, .iload_n 2, 18, 0, 0), (18, .iload_n 3, 19, 0, 0), (19, .iconst 1, 20, 1, 0), (20, .iadd, 21, 0, 0), (21, .iconst 0, 22, 0, 0), (22, .invokevirtual 184, 25, 0, 249), (25, .ifCond .eq 7, 28, 0, 32), (28, .iload_n 3, 29, 0, 0), (29, .goto 4, 32, 0, 33), (32, .iconst (-1), 33, (-1), 0), (33, .ireturn, 34, 0, 0)]
def MX11_text : zMI := (yX11_text, cX11_text, 4, (some .int), [(99999, CX11_text_0)], [])
theorem DX11_text_0 : CX11_text_0.all (zchk cX11_text) = true := by decide +kernel
theorem OX11_text : zMOK MX11_text := by
  intro q hq e he
  simp only [MX11_text, zFt, List.mem_cons, List.not_mem_nil, or_false] at hq
  rcases hq with rfl
  · exact List.all_eq_true.mp DX11_text_0 e he
theorem KX11_text : zMK MX11_text := ⟨OX11_text, by decide +kernel, z_in (List.mem_of_getElem? (i := 1312) (by decide +kernel)), z_in (List.mem_of_getElem? (i := 11) (by decide +kernel)), by decide +kernel, by decide +kernel⟩
theorem IX11_text : Jvm.Cond.instanceMethod yX11_text ∈ lw_tbl := z_in (List.mem_of_getElem? (i := 1310) (by decide +kernel))
theorem VX11_text : Jvm.Cond.selects "ShadowWardModel" yX11_text yX11_text ∈ lw_tbl := z_in (List.mem_of_getElem? (i := 1311) (by decide +kernel))
def CX11_compare_0 : List zEn := [(0, .aload_n 0, 1, 0, 0), (1, .aload_n 0, 2, 0, 0), (2, .iload_n 3, 3, 0, 0), (3, .invokevirtual 181, 6, 0, 247), (6, .ifCond .eq 7, 9, 0, 13), (9, .iconst 1, 10, 1, 0), (10, .goto 4, 13, 0, 14), (13, .iconst 0, 14, 0, 0), (14, .invokevirtual 88, 17, 0, 216), (17, .ifCond .eq 5, 20, 0, 22), (20, .iconst 0, 21, 0, 0), (21, .ireturn, 22, 0, 0), (22, .iconst 0, 23, 0, 0), (23, .istore 4, 25, 0, 0), (25, .iload 4, 27, 0, 0), (27, .iload_n 3, 28, 0, 0), (28, .if_icmp .ge 95, 31, 0, 123), (31, .aload_n 0, 32, 0, 0), (32, .iload_n 1, 33, 0, 0), (33, .i2l, 34, 0, 0), (34, .iload 4, 36, 0, 0), (36, .iload 4, 38, 0, 0), (38, .iconst 1, 39, 1, 0), (39, .iadd, 40, 0, 0), (40, .iconst 1, 41, 1, 0), (41, .iconst 0, 42, 0, 0), (42, .invokevirtual 177, 45, 0, 243), (45, .ifCond .eq 20, 48, 0, 65), (48, .aload_n 0, 49, 0, 0), (49, .iload_n 2, 50, 0, 0)]
def CX11_compare_1 : List zEn := [(50, .i2l, 51, 0, 0), (51, .iload 4, 53, 0, 0), (53, .iload 4, 55, 0, 0), (55, .iconst 1, 56, 1, 0), (56, .iadd, 57, 0, 0), (57, .iconst 1, 58, 1, 0), (58, .iconst 0, 59, 0, 0), (59, .invokevirtual 177, 62, 0, 243), (62, .ifCond .ne 5, 65, 0, 67), (65, .iconst 2, 66, 2, 0), (66, .ireturn, 67, 0, 0), (67, .aload_n 0, 68, 0, 0), (68, .getfield 7, 71, 0, 126), (71, .iload_n 1, 72, 0, 0), (72, .iload 4, 74, 0, 0), (74, .iadd, 75, 0, 0), (75, .baload, 76, 0, 0), (76, .sipush 255, 79, 255, 0), (79, .iand, 80, 0, 0), (80, .istore 5, 82, 0, 0), (82, .aload_n 0, 83, 0, 0), (83, .getfield 7, 86, 0, 126), (86, .iload_n 2, 87, 0, 0), (87, .iload 4, 89, 0, 0), (89, .iadd, 90, 0, 0), (90, .baload, 91, 0, 0), (91, .sipush 255, 94, 255, 0), (94, .iand, 95, 0, 0), (95, .istore 6, 97, 0, 0), (97, .iload 5, 99, 0, 0)]
def CX11_compare_2 : List zEn := [(99, .iload 6, 101, 0, 0), (101, .if_icmp .eq 16, 104, 0, 117), (104, .iload 5, 106, 0, 0), (106, .iload 6, 108, 0, 0), (108, .if_icmp .ge 7, 111, 0, 115), (111, .iconst (-1), 112, (-1), 0), (112, .goto 4, 115, 0, 116), (115, .iconst 1, 116, 1, 0), (116, .ireturn, 117, 0, 0), (117, .iinc 4 1, 120, 1, 0), (120, .goto (-95), 123, 0, 25), (123, .iconst 0, 124, 0, 0), (124, .ireturn, 125, 0, 0)]
def MX11_compare : zMI := (yX11_compare, cX11_compare, 7, (some .int), [(50, CX11_compare_0), (99, CX11_compare_1), (99999, CX11_compare_2)], [])
theorem DX11_compare_0 : CX11_compare_0.all (zchk cX11_compare) = true := by decide +kernel
theorem DX11_compare_1 : CX11_compare_1.all (zchk cX11_compare) = true := by decide +kernel
theorem DX11_compare_2 : CX11_compare_2.all (zchk cX11_compare) = true := by decide +kernel
theorem OX11_compare : zMOK MX11_compare := by
  intro q hq e he
  simp only [MX11_compare, zFt, List.mem_cons, List.not_mem_nil, or_false] at hq
  rcases hq with rfl | rfl | rfl
  · exact List.all_eq_true.mp DX11_compare_0 e he
  · exact List.all_eq_true.mp DX11_compare_1 e he
  · exact List.all_eq_true.mp DX11_compare_2 e he
theorem KX11_compare : zMK MX11_compare := ⟨OX11_compare, by decide +kernel, z_in (List.mem_of_getElem? (i := 1316) (by decide +kernel)), z_in (List.mem_of_getElem? (i := 11) (by decide +kernel)), by decide +kernel, by decide +kernel⟩
theorem IX11_compare : Jvm.Cond.instanceMethod yX11_compare ∈ lw_tbl := z_in (List.mem_of_getElem? (i := 1314) (by decide +kernel))
theorem VX11_compare : Jvm.Cond.selects "ShadowWardModel" yX11_compare yX11_compare ∈ lw_tbl := z_in (List.mem_of_getElem? (i := 1315) (by decide +kernel))
def CX11_change_0 : List zEn := [(0, .aload_n 0, 1, 0, 0), (1, .aload_n 0, 2, 0, 0), (2, .iload_n 2, 3, 0, 0), (3, .invokevirtual 181, 6, 0, 247), (6, .ifCond .ne 25, 9, 0, 31), (9, .iload_n 2, 10, 0, 0), (10, .ifCond .le 25, 13, 0, 35), (13, .iload_n 1, 14, 0, 0), (14, .ifCond .lt 17, 17, 0, 31), (17, .iload_n 1, 18, 0, 0), (18, .i2l, 19, 0, 0), (19, .iload_n 2, 20, 0, 0), (20, .i2l, 21, 0, 0), (21, .ladd, 22, 0, 0), (22, .aload_n 0, 23, 0, 0), (23, .getfield 78, 26, 0, 124), (26, .i2l, 27, 0, 0), (27, .lcmp, 28, 0, 0), (28, .ifCond .le 7, 31, 0, 35), (31, .iconst 1, 32, 1, 0), (32, .goto 4, 35, 0, 36), (35, .iconst 0, 36, 0, 0), (36, .invokevirtual 88, 39, 0, 216), (39, .ifCond .eq 5, 42, 0, 44), (42, .iconst 0, 43, 0, 0), (43, .ireturn, 44, 0, 0), (44, .iconst 0, 45, 0, 0), (45, .istore 5, 47, 0, 0), (47, .iconst 0, 48, 0, 0), (48, .istore 6, 50, 0, 0)]
def CX11_change_1 : List zEn := [(50, .iload 6, 52, 0, 0), (52, .aload_n 0, 53, 0, 0), (53, .getfield 78, 56, 0, 124), (56, .bipush 8, 58, 8, 0), (58, .idiv, 59, 0, 0), (59, .if_icmp .ge 64, 62, 0, 123), (62, .bipush 8, 64, 8, 0), (64, .iload 6, 66, 0, 0), (66, .imul, 67, 0, 0), (67, .iload_n 1, 68, 0, 0), (68, .if_icmp .lt 49, 71, 0, 117), (71, .ldc2_w 171, 74, 0, 0), (74, .iload 6, 76, 0, 0), (76, .i2l, 77, 0, 0), (77, .lmul, 78, 0, 0), (78, .ldc2_w 171, 81, 0, 0), (81, .ladd, 82, 0, 0), (82, .iload_n 1, 83, 0, 0), (83, .i2l, 84, 0, 0), (84, .iload_n 2, 85, 0, 0), (85, .i2l, 86, 0, 0), (86, .ladd, 87, 0, 0), (87, .lcmp, 88, 0, 0), (88, .ifCond .gt 29, 91, 0, 117), (91, .aload_n 0, 92, 0, 0), (92, .getfield 13, 95, 0, 127), (95, .iload 6, 97, 0, 0), (97, .iaload, 98, 0, 0), (98, .iload_n 3, 99, 0, 0), (99, .if_icmp .eq 6, 102, 0, 105)]
def CX11_change_2 : List zEn := [(102, .goto 15, 105, 0, 117), (105, .aload_n 0, 106, 0, 0), (106, .getfield 13, 109, 0, 127), (109, .iload 6, 111, 0, 0), (111, .iload 4, 113, 0, 0), (113, .iastore, 114, 0, 0), (114, .iinc 5 1, 117, 1, 0), (117, .iinc 6 1, 120, 1, 0), (120, .goto (-70), 123, 0, 50), (123, .iload 5, 125, 0, 0), (125, .ireturn, 126, 0, 0)]
def MX11_change : zMI := (yX11_change, cX11_change, 7, (some .int), [(50, CX11_change_0), (102, CX11_change_1), (99999, CX11_change_2)], [])
theorem DX11_change_0 : CX11_change_0.all (zchk cX11_change) = true := by decide +kernel
theorem DX11_change_1 : CX11_change_1.all (zchk cX11_change) = true := by decide +kernel
theorem DX11_change_2 : CX11_change_2.all (zchk cX11_change) = true := by decide +kernel
theorem OX11_change : zMOK MX11_change := by
  intro q hq e he
  simp only [MX11_change, zFt, List.mem_cons, List.not_mem_nil, or_false] at hq
  rcases hq with rfl | rfl | rfl
  · exact List.all_eq_true.mp DX11_change_0 e he
  · exact List.all_eq_true.mp DX11_change_1 e he
  · exact List.all_eq_true.mp DX11_change_2 e he
theorem KX11_change : zMK MX11_change := ⟨OX11_change, by decide +kernel, z_in (List.mem_of_getElem? (i := 1324) (by decide +kernel)), z_in (List.mem_of_getElem? (i := 11) (by decide +kernel)), by decide +kernel, by decide +kernel⟩
theorem IX11_change : Jvm.Cond.instanceMethod yX11_change ∈ lw_tbl := z_in (List.mem_of_getElem? (i := 1323) (by decide +kernel))
theorem VX11_change : Jvm.Cond.selects "ShadowWardModel" yX11_change yX11_change ∈ lw_tbl := List.mem_append_left _ (List.mem_of_getElem? (i := 44) (by decide +kernel))
def CX11_lock_0 : List zEn := [(0, .aload_n 0, 1, 0, 0), (1, .iload_n 1, 2, 0, 0), (2, .iload_n 2, 3, 0, 0), (3, .iconst 0, 4, 0, 0), (4, .sipush 247, 7, 247, 0), (7, .invokevirtual 191, 10, 0, 255), (10, .ireturn, 11, 0, 0)]
def MX11_lock : zMI := (yX11_lock, cX11_lock, 3, (some .int), [(99999, CX11_lock_0)], [])
theorem DX11_lock_0 : CX11_lock_0.all (zchk cX11_lock) = true := by decide +kernel
theorem OX11_lock : zMOK MX11_lock := by
  intro q hq e he
  simp only [MX11_lock, zFt, List.mem_cons, List.not_mem_nil, or_false] at hq
  rcases hq with rfl
  · exact List.all_eq_true.mp DX11_lock_0 e he
theorem KX11_lock : zMK MX11_lock := ⟨OX11_lock, by decide +kernel, z_in (List.mem_of_getElem? (i := 1320) (by decide +kernel)), z_in (List.mem_of_getElem? (i := 11) (by decide +kernel)), by decide +kernel, by decide +kernel⟩
theorem IX11_lock : Jvm.Cond.instanceMethod yX11_lock ∈ lw_tbl := z_in (List.mem_of_getElem? (i := 1318) (by decide +kernel))
theorem VX11_lock : Jvm.Cond.selects "ShadowWardModel" yX11_lock yX11_lock ∈ lw_tbl := z_in (List.mem_of_getElem? (i := 1319) (by decide +kernel))
def CX11_unlock_0 : List zEn := [(0, .aload_n 0, 1, 0, 0), (1, .iload_n 1, 2, 0, 0), (2, .iload_n 2, 3, 0, 0), (3, .sipush 247, 6, 247, 0), (6, .iconst 0, 7, 0, 0), (7, .invokevirtual 191, 10, 0, 255), (10, .ireturn, 11, 0, 0)]
def MX11_unlock : zMI := (yX11_unlock, cX11_unlock, 3, (some .int), [(99999, CX11_unlock_0)], [])
theorem DX11_unlock_0 : CX11_unlock_0.all (zchk cX11_unlock) = true := by decide +kernel
theorem OX11_unlock : zMOK MX11_unlock := by
  intro q hq e he
  simp only [MX11_unlock, zFt, List.mem_cons, List.not_mem_nil, or_false] at hq
  rcases hq with rfl
  · exact List.all_eq_true.mp DX11_unlock_0 e he
theorem KX11_unlock : zMK MX11_unlock := ⟨OX11_unlock, by decide +kernel, z_in (List.mem_of_getElem? (i := 1328) (by decide +kernel)), z_in (List.mem_of_getElem? (i := 11) (by decide +kernel)), by decide +kernel, by decide +kernel⟩
theorem IX11_unlock : Jvm.Cond.instanceMethod yX11_unlock ∈ lw_tbl := z_in (List.mem_of_getElem? (i := 1326) (by decide +kernel))
theorem VX11_unlock : Jvm.Cond.selects "ShadowWardModel" yX11_unlock yX11_unlock ∈ lw_tbl := z_in (List.mem_of_getElem? (i := 1327) (by decide +kernel))
def CX11_report_0 : List zEn := [(0, .aload_n 0, 1, 0, 0), (1, .iload_n 1, 2, 0, 0), (2, .ifCond .lt 11, 5, 0, 13), (5, .iload_n 1, 6, 0, 0), (6, .aload_n 0, 7, 0, 0), (7, .getfield 157, 10, 0, 150), (10, .if_icmp .lt 7, 13, 0, 17), (13, .iconst 1, 14, 1, 0), (14, .goto 18, 17, 0, 32), (17, .iload_n 2, 18, 0, 0), (18, .ifCond .lt 9, 21, 0, 27), (21, .iload_n 2, 22, 0, 0), (22, .bipush 9, 24, 9, 0), (24, .if_icmp .le 7, 27, 0, 31), (27, .iconst 2, 28, 2, 0), (28, .goto 4, 31, 0, 32), (31, .iconst 0, 32, 0, 0), (32, .invokevirtual 88, 35, 0, 216), (35, .ifCond .eq 7, 38, 0, 42), (38, .iconst 0, 39, 0, 0), (39, .goto 14, 42, 0, 53), (42, .aload_n 0, 43, 0, 0), (43, .getfield 69, 46, 0, 149), (46, .bipush 10, 48, 10, 0), (48, .iload_n 1, 49, 0, 0), (49, .imul, 50, 0, 0), (50, .iload_n 2, 51, 0, 0), (51, .iadd, 52, 0, 0), (52, .iaload, 53, 0, 0), (53, .ireturn, 54, 0, 0)]
def MX11_report : zMI := (yX11_report, cX11_report, 3, (some .int), [(99999, CX11_report_0)], [])
theorem DX11_report_0 : CX11_report_0.all (zchk cX11_report) = true := by decide +kernel
theorem OX11_report : zMOK MX11_report := by
  intro q hq e he
  simp only [MX11_report, zFt, List.mem_cons, List.not_mem_nil, or_false] at hq
  rcases hq with rfl
  · exact List.all_eq_true.mp DX11_report_0 e he
theorem KX11_report : zMK MX11_report := ⟨OX11_report, by decide +kernel, z_in (List.mem_of_getElem? (i := 1332) (by decide +kernel)), z_in (List.mem_of_getElem? (i := 11) (by decide +kernel)), by decide +kernel, by decide +kernel⟩
theorem IX11_report : Jvm.Cond.instanceMethod yX11_report ∈ lw_tbl := z_in (List.mem_of_getElem? (i := 1330) (by decide +kernel))
theorem VX11_report : Jvm.Cond.selects "ShadowWardModel" yX11_report yX11_report ∈ lw_tbl := z_in (List.mem_of_getElem? (i := 1331) (by decide +kernel))
def CX11_block_0 : List zEn := [(0, .aload_n 0, 1, 0, 0), (1, .iload_n 1, 2, 0, 0), (2, .ifCond .lt 11, 5, 0, 13), (5, .iload_n 1, 6, 0, 0), (6, .aload_n 0, 7, 0, 0), (7, .getfield 117, 10, 0, 146), (10, .if_icmp .lt 7, 13, 0, 17), (13, .iconst 1, 14, 1, 0), (14, .goto 18, 17, 0, 32), (17, .iload_n 2, 18, 0, 0), (18, .ifCond .lt 9, 21, 0, 27), (21, .iload_n 2, 22, 0, 0), (22, .bipush 7, 24, 7, 0), (24, .if_icmp .le 7, 27, 0, 31), (27, .iconst 2, 28, 2, 0), (28, .goto 4, 31, 0, 32), (31, .iconst 0, 32, 0, 0), (32, .invokevirtual 88, 35, 0, 216), (35, .ifCond .eq 5, 38, 0, 40), (38, .iconst 0, 39, 0, 0), (39, .ireturn, 40, 0, 0), (40, .iload_n 2, 41, 0, 0), (41, .tableswitch 92 0 6 #[43, 50, 57, 64, 71, 78, 85], 84, 0, 0), (84, .aload_n 0, 85, 0, 0), (85, .getfield 42, 88, 0, 138), (88, .iload_n 1, 89, 0, 0), (89, .iaload, 90, 0, 0), (90, .ireturn, 91, 0, 0), (91, .aload_n 0, 92, 0, 0), (92, .getfield 45, 95, 0, 139)]
def CX11_block_1 : List zEn := [(95, .iload_n 1, 96, 0, 0), (96, .iaload, 97, 0, 0), (97, .ireturn, 98, 0, 0), (98, .aload_n 0, 99, 0, 0), (99, .getfield 48, 102, 0, 140), (102, .iload_n 1, 103, 0, 0), (103, .iaload, 104, 0, 0), (104, .ireturn, 105, 0, 0), (105, .aload_n 0, 106, 0, 0), (106, .getfield 51, 109, 0, 141), (109, .iload_n 1, 110, 0, 0), (110, .iaload, 111, 0, 0), (111, .ireturn, 112, 0, 0), (112, .aload_n 0, 113, 0, 0), (113, .getfield 54, 116, 0, 142), (116, .iload_n 1, 117, 0, 0), (117, .iaload, 118, 0, 0), (118, .ireturn, 119, 0, 0), (119, .aload_n 0, 120, 0, 0), (120, .getfield 57, 123, 0, 143), (123, .iload_n 1, 124, 0, 0), (124, .iaload, 125, 0, 0), (125, .ireturn, 126, 0, 0), (126, .aload_n 0, 127, 0, 0), (127, .getfield 60, 130, 0, 144), (130, .iload_n 1, 131, 0, 0), (131, .iaload, 132, 0, 0), (132, .ireturn, 133, 0, 0), (133, .aload_n 0, 134, 0, 0), (134, .getfield 63, 137, 0, 145)]
def CX11_block_2 : List zEn := [(137, .iload_n 1, 138, 0, 0), (138, .iaload, 139, 0, 0), (139, .ireturn, 140, 0, 0)]
def MX11_block : zMI := (yX11_block, cX11_block, 3, (some .int), [(95, CX11_block_0), (137, CX11_block_1), (99999, CX11_block_2)], [])
theorem DX11_block_0 : CX11_block_0.all (zchk cX11_block) = true := by decide +kernel
theorem DX11_block_1 : CX11_block_1.all (zchk cX11_block) = true := by decide +kernel
theorem DX11_block_2 : CX11_block_2.all (zchk cX11_block) = true := by decide +kernel
theorem OX11_block : zMOK MX11_block := by
  intro q hq e he
  simp only [MX11_block, zFt, List.mem_cons, List.not_mem_nil, or_false] at hq
  rcases hq with rfl | rfl | rfl
  · exact List.all_eq_true.mp DX11_block_0 e he
  · exact List.all_eq_true.mp DX11_block_1 e he
  · exact List.all_eq_true.mp DX11_block_2 e he
theorem KX11_block : zMK MX11_block := ⟨OX11_block, by decide +kernel, z_in (List.mem_of_getElem? (i := 1336) (by decide +kernel)), z_in (List.mem_of_getElem? (i := 11) (by decide +kernel)), by decide +kernel, by decide +kernel⟩
theorem IX11_block : Jvm.Cond.instanceMethod yX11_block ∈ lw_tbl := z_in (List.mem_of_getElem? (i := 1334) (by decide +kernel))
theorem VX11_block : Jvm.Cond.selects "ShadowWardModel" yX11_block yX11_block ∈ lw_tbl := z_in (List.mem_of_getElem? (i := 1335) (by decide +kernel))
def CX11_shadow_0 : List zEn := [(0, .aload_n 0, 1, 0, 0), (1, .iload_n 1, 2, 0, 0), (2, .ifCond .lt 14, 5, 0, 16), (5, .iload_n 1, 6, 0, 0), (6, .aload_n 0, 7, 0, 0), (7, .getfield 78, 10, 0, 124), (10, .bipush 8, 12, 8, 0), (12, .idiv, 13, 0, 0), (13, .if_icmp .lt 7, 16, 0, 20), (16, .iconst 1, 17, 1, 0), (17, .goto 4, 20, 0, 21), (20, .iconst 0, 21, 0, 0), (21, .invokevirtual 88, 24, 0, 216), (24, .ifCond .eq 7, 27, 0, 31), (27, .iconst 0, 28, 0, 0), (28, .goto 9, 31, 0, 37), (31, .aload_n 0, 32, 0, 0), (32, .getfield 13, 35, 0, 127), (35, .iload_n 1, 36, 0, 0), (36, .iaload, 37, 0, 0), (37, .ireturn, 38, 0, 0)]
def MX11_shadow : zMI := (yX11_shadow, cX11_shadow, 2, (some .int), [(99999, CX11_shadow_0)], [])
theorem DX11_shadow_0 : CX11_shadow_0.all (zchk cX11_shadow) = true := by decide +kernel
theorem OX11_shadow : zMOK MX11_shadow := by
  intro q hq e he
  simp only [MX11_shadow, zFt, List.mem_cons, List.not_mem_nil, or_false] at hq
  rcases hq with rfl
  · exact List.all_eq_true.mp DX11_shadow_0 e he
theorem KX11_shadow : zMK MX11_shadow := ⟨OX11_shadow, by decide +kernel, z_in (List.mem_of_getElem? (i := 1340) (by decide +kernel)), z_in (List.mem_of_getElem? (i := 11) (by decide +kernel)), by decide +kernel, by decide +kernel⟩
theorem IX11_shadow : Jvm.Cond.instanceMethod yX11_shadow ∈ lw_tbl := z_in (List.mem_of_getElem? (i := 1338) (by decide +kernel))
theorem VX11_shadow : Jvm.Cond.selects "ShadowWardModel" yX11_shadow yX11_shadow ∈ lw_tbl := z_in (List.mem_of_getElem? (i := 1339) (by decide +kernel))
def CX11_peek_0 : List zEn := [(0, .aload_n 0, 1, 0, 0), (1, .iload_n 1, 2, 0, 0), (2, .ifCond .lt 11, 5, 0, 13), (5, .iload_n 1, 6, 0, 0), (6, .aload_n 0, 7, 0, 0), (7, .getfield 78, 10, 0, 124), (10, .if_icmp .lt 7, 13, 0, 17), (13, .iconst 1, 14, 1, 0), (14, .goto 4, 17, 0, 18), (17, .iconst 0, 18, 0, 0), (18, .invokevirtual 88, 21, 0, 216), (21, .ifCond .eq 7, 24, 0, 28), (24, .iconst 0, 25, 0, 0), (25, .goto 13, 28, 0, 38), (28, .aload_n 0, 29, 0, 0), (29, .getfield 7, 32, 0, 126), (32, .iload_n 1, 33, 0, 0), (33, .baload, 34, 0, 0), (34, .sipush 255, 37, 255, 0), (37, .iand, 38, 0, 0), (38, .ireturn, 39, 0, 0)]
def MX11_peek : zMI := (yX11_peek, cX11_peek, 2, (some .int), [(99999, CX11_peek_0)], [])
theorem DX11_peek_0 : CX11_peek_0.all (zchk cX11_peek) = true := by decide +kernel
theorem OX11_peek : zMOK MX11_peek := by
  intro q hq e he
  simp only [MX11_peek, zFt, List.mem_cons, List.not_mem_nil, or_false] at hq
  rcases hq with rfl
  · exact List.all_eq_true.mp DX11_peek_0 e he
theorem KX11_peek : zMK MX11_peek := ⟨OX11_peek, by decide +kernel, z_in (List.mem_of_getElem? (i := 1344) (by decide +kernel)), z_in (List.mem_of_getElem? (i := 11) (by decide +kernel)), by decide +kernel, by decide +kernel⟩
theorem IX11_peek : Jvm.Cond.instanceMethod yX11_peek ∈ lw_tbl := z_in (List.mem_of_getElem? (i := 1342) (by decide +kernel))
theorem VX11_peek : Jvm.Cond.selects "ShadowWardModel" yX11_peek yX11_peek ∈ lw_tbl := z_in (List.mem_of_getElem? (i := 1343) (by decide +kernel))
def CX11_held_0 : List zEn := [(0, .aload_n 0, 1, 0, 0), (1, .iload_n 1, 2, 0, 0), (2, .ifCond .lt 11, 5, 0, 13), (5, .iload_n 1, 6, 0, 0), (6, .aload_n 0, 7, 0, 0), (7, .getfield 123, 10, 0, 148), (10, .if_icmp .lt 7, 13, 0, 17), (13, .iconst 1, 14, 1, 0), (14, .goto 4, 17, 0, 18), (17, .iconst 0, 18, 0, 0), (18, .invokevirtual 88, 21, 0, 216), (21, .ifCond .eq 7, 24, 0, 28), (24, .iconst 0, 25, 0, 0), (25, .goto 9, 28, 0, 34), (28, .aload_n 0, 29, 0, 0), (29, .getfield 66, 32, 0, 147), (32, .iload_n 1, 33, 0, 0), (33, .iaload, 34, 0, 0), (34, .ireturn, 35, 0, 0)]
def MX11_held : zMI := (yX11_held, cX11_held, 2, (some .int), [(99999, CX11_held_0)], [])
theorem DX11_held_0 : CX11_held_0.all (zchk cX11_held) = true := by decide +kernel
theorem OX11_held : zMOK MX11_held := by
  intro q hq e he
  simp only [MX11_held, zFt, List.mem_cons, List.not_mem_nil, or_false] at hq
  rcases hq with rfl
  · exact List.all_eq_true.mp DX11_held_0 e he
theorem KX11_held : zMK MX11_held := ⟨OX11_held, by decide +kernel, z_in (List.mem_of_getElem? (i := 1348) (by decide +kernel)), z_in (List.mem_of_getElem? (i := 11) (by decide +kernel)), by decide +kernel, by decide +kernel⟩
theorem IX11_held : Jvm.Cond.instanceMethod yX11_held ∈ lw_tbl := z_in (List.mem_of_getElem? (i := 1346) (by decide +kernel))
theorem VX11_held : Jvm.Cond.selects "ShadowWardModel" yX11_held yX11_held ∈ lw_tbl := z_in (List.mem_of_getElem? (i := 1347) (by decide +kernel))
def CX11_word_0 : List zEn := [(0, .aload_n 0, 1, 0, 0), (1, .getfield 7, 4, 0, 126), (4, .iload_n 1, 5, 0, 0), (5, .baload, 6, 0, 0), (6, .i2l, 7, 0, 0), (7, .ldc2_w 195, 10, 0, 0), (10, .land, 11, 0, 0), (11, .aload_n 0, 12, 0, 0), (12, .getfield 7, 15, 0, 126), (15, .iload_n 1, 16, 0, 0), (16, .iconst 1, 17, 1, 0), (17, .iadd, 18, 0, 0), (18, .baload, 19, 0, 0), (19, .i2l, 20, 0, 0), (20, .ldc2_w 195, 23, 0, 0), (23, .land, 24, 0, 0), (24, .bipush 8, 26, 8, 0), (26, .lshl, 27, 0, 0), (27, .lor, 28, 0, 0), (28, .aload_n 0, 29, 0, 0), (29, .getfield 7, 32, 0, 126), (32, .iload_n 1, 33, 0, 0), (33, .iconst 2, 34, 2, 0), (34, .iadd, 35, 0, 0), (35, .baload, 36, 0, 0), (36, .i2l, 37, 0, 0), (37, .ldc2_w 195, 40, 0, 0), (40, .land, 41, 0, 0), (41, .bipush 16, 43, 16, 0), (43, .lshl, 44, 0, 0)]
def CX11_word_1 : List zEn := [(44, .lor, 45, 0, 0), (45, .aload_n 0, 46, 0, 0), (46, .getfield 7, 49, 0, 126), (49, .iload_n 1, 50, 0, 0), (50, .iconst 3, 51, 3, 0), (51, .iadd, 52, 0, 0), (52, .baload, 53, 0, 0), (53, .i2l, 54, 0, 0), (54, .ldc2_w 195, 57, 0, 0), (57, .land, 58, 0, 0), (58, .bipush 24, 60, 24, 0), (60, .lshl, 61, 0, 0), (61, .lor, 62, 0, 0), (62, .lreturn, 63, 0, 0)]
def MX11_word : zMI := (yX11_word, cX11_word, 2, (some .long), [(44, CX11_word_0), (99999, CX11_word_1)], [])
theorem DX11_word_0 : CX11_word_0.all (zchk cX11_word) = true := by decide +kernel
theorem DX11_word_1 : CX11_word_1.all (zchk cX11_word) = true := by decide +kernel
theorem OX11_word : zMOK MX11_word := by
  intro q hq e he
  simp only [MX11_word, zFt, List.mem_cons, List.not_mem_nil, or_false] at hq
  rcases hq with rfl | rfl
  · exact List.all_eq_true.mp DX11_word_0 e he
  · exact List.all_eq_true.mp DX11_word_1 e he
theorem KX11_word : zMK MX11_word := ⟨OX11_word, by decide +kernel, z_in (List.mem_of_getElem? (i := 1368) (by decide +kernel)), z_in (List.mem_of_getElem? (i := 11) (by decide +kernel)), by decide +kernel, by decide +kernel⟩
theorem IX11_word : Jvm.Cond.instanceMethod yX11_word ∈ lw_tbl := z_in (List.mem_of_getElem? (i := 1367) (by decide +kernel))
theorem VX11_word : Jvm.Cond.selects "ShadowWardModel" yX11_word yX11_word ∈ lw_tbl := List.mem_append_left _ (List.mem_of_getElem? (i := 48) (by decide +kernel))
def CX11_leads_0 : List zEn := [(0, .iload_n 1, 1, 0, 0), (1, .istore 4, 3, 0, 0), (3, .iload 4, 5, 0, 0), (5, .iconst 4, 6, 4, 0), (6, .iadd, 7, 0, 0), (7, .iload_n 1, 8, 0, 0), (8, .iload_n 2, 9, 0, 0), (9, .iadd, 10, 0, 0), (10, .if_icmp .gt 52, 13, 0, 62), (13, .aload_n 0, 14, 0, 0), (14, .iload 4, 16, 0, 0), (16, .invokevirtual 197, 19, 0, 266), (19, .lstore 5, 21, 0, 0), (21, .lload 5, 23, 0, 0), (23, .aload_n 0, 24, 0, 0), (24, .getfield 42, 27, 0, 138), (27, .iload_n 3, 28, 0, 0), (28, .iaload, 29, 0, 0), (29, .i2l, 30, 0, 0), (30, .lcmp, 31, 0, 0), (31, .ifCond .lt 25, 34, 0, 56), (34, .lload 5, 36, 0, 0), (36, .aload_n 0, 37, 0, 0), (37, .getfield 42, 40, 0, 138), (40, .iload_n 3, 41, 0, 0), (41, .iaload, 42, 0, 0), (42, .aload_n 0, 43, 0, 0), (43, .getfield 45, 46, 0, 139), (46, .iload_n 3, 47, 0, 0), (47, .iaload, 48, 0, 0)]
def CX11_leads_1 : List zEn := [(48, .iadd, 49, 0, 0), (49, .i2l, 50, 0, 0), (50, .lcmp, 51, 0, 0), (51, .ifCond .ge 5, 54, 0, 56), (54, .iconst 1, 55, 1, 0), (55, .ireturn, 56, 0, 0), (56, .iinc 4 4, 59, 4, 0), (59, .goto (-56), 62, 0, 3), (62, .iconst 0, 63, 0, 0), (63, .ireturn, 64, 0, 0)]
def MX11_leads : zMI := (yX11_leads, cX11_leads, 7, (some .boolean), [(48, CX11_leads_0), (99999, CX11_leads_1)], [])
theorem DX11_leads_0 : CX11_leads_0.all (zchk cX11_leads) = true := by decide +kernel
theorem DX11_leads_1 : CX11_leads_1.all (zchk cX11_leads) = true := by decide +kernel
theorem OX11_leads : zMOK MX11_leads := by
  intro q hq e he
  simp only [MX11_leads, zFt, List.mem_cons, List.not_mem_nil, or_false] at hq
  rcases hq with rfl | rfl
  · exact List.all_eq_true.mp DX11_leads_0 e he
  · exact List.all_eq_true.mp DX11_leads_1 e he
theorem KX11_leads : zMK MX11_leads := ⟨OX11_leads, by decide +kernel, z_in (List.mem_of_getElem? (i := 1364) (by decide +kernel)), z_in (List.mem_of_getElem? (i := 11) (by decide +kernel)), by decide +kernel, by decide +kernel⟩
theorem IX11_leads : Jvm.Cond.instanceMethod yX11_leads ∈ lw_tbl := z_in (List.mem_of_getElem? (i := 1363) (by decide +kernel))
theorem VX11_leads : Jvm.Cond.selects "ShadowWardModel" yX11_leads yX11_leads ∈ lw_tbl := List.mem_append_left _ (List.mem_of_getElem? (i := 47) (by decide +kernel))
def CX11_isRooted_0 : List zEn := [(0, .iconst 0, 1, 0, 0), (1, .istore_n 2, 2, 0, 0), (2, .iload_n 2, 3, 0, 0), (3, .aload_n 0, 4, 0, 0), (4, .getfield 92, 7, 0, 130), (7, .if_icmp .ge 31, 10, 0, 38), (10, .aload_n 0, 11, 0, 0), (11, .aload_n 0, 12, 0, 0), (12, .getfield 17, 15, 0, 128), (15, .iload_n 2, 16, 0, 0), (16, .iaload, 17, 0, 0), (17, .aload_n 0, 18, 0, 0), (18, .getfield 20, 21, 0, 129), (21, .iload_n 2, 22, 0, 0), (22, .iaload, 23, 0, 0), (23, .iload_n 1, 24, 0, 0), (24, .invokevirtual 201, 27, 0, 265), (27, .ifCond .eq 5, 30, 0, 32), (30, .iconst 1, 31, 1, 0), (31, .ireturn, 32, 0, 0), (32, .iinc 2 1, 35, 1, 0), (35, .goto (-33), 38, 0, 2), (38, .iconst 0, 39, 0, 0), (39, .istore_n 2, 40, 0, 0), (40, .iload_n 2, 41, 0, 0), (41, .iconst 4, 42, 4, 0), (42, .aload_n 0, 43, 0, 0), (43, .getfield 102, 46, 0, 137), (46, .imul, 47, 0, 0), (47, .if_icmp .ge 54, 50, 0, 101)]
def CX11_isRooted_1 : List zEn := [(50, .iload_n 2, 51, 0, 0), (51, .iconst 4, 52, 4, 0), (52, .irem, 53, 0, 0), (53, .aload_n 0, 54, 0, 0), (54, .getfield 29, 57, 0, 133), (57, .iload_n 2, 58, 0, 0), (58, .iconst 4, 59, 4, 0), (59, .idiv, 60, 0, 0), (60, .iaload, 61, 0, 0), (61, .if_icmp .ge 34, 64, 0, 95), (64, .aload_n 0, 65, 0, 0), (65, .getfield 38, 68, 0, 136), (68, .iload_n 2, 69, 0, 0), (69, .baload, 70, 0, 0), (70, .ifCond .ne 25, 73, 0, 95), (73, .aload_n 0, 74, 0, 0), (74, .aload_n 0, 75, 0, 0), (75, .getfield 32, 78, 0, 134), (78, .iload_n 2, 79, 0, 0), (79, .iaload, 80, 0, 0), (80, .aload_n 0, 81, 0, 0), (81, .getfield 35, 84, 0, 135), (84, .iload_n 2, 85, 0, 0), (85, .iaload, 86, 0, 0), (86, .iload_n 1, 87, 0, 0), (87, .invokevirtual 201, 90, 0, 265), (90, .ifCond .eq 5, 93, 0, 95), (93, .iconst 1, 94, 1, 0), (94, .ireturn, 95, 0, 0), (95, .iinc 2 1, 98, 1, 0)]
def CX11_isRooted_2 : List zEn := [(98, .goto (-58), 101, 0, 40), (101, .iconst 0, 102, 0, 0), (102, .ireturn, 103, 0, 0)]
def MX11_isRooted : zMI := (yX11_isRooted, cX11_isRooted, 3, (some .boolean), [(50, CX11_isRooted_0), (98, CX11_isRooted_1), (99999, CX11_isRooted_2)], [])
theorem DX11_isRooted_0 : CX11_isRooted_0.all (zchk cX11_isRooted) = true := by decide +kernel
theorem DX11_isRooted_1 : CX11_isRooted_1.all (zchk cX11_isRooted) = true := by decide +kernel
theorem DX11_isRooted_2 : CX11_isRooted_2.all (zchk cX11_isRooted) = true := by decide +kernel
theorem OX11_isRooted : zMOK MX11_isRooted := by
  intro q hq e he
  simp only [MX11_isRooted, zFt, List.mem_cons, List.not_mem_nil, or_false] at hq
  rcases hq with rfl | rfl | rfl
  · exact List.all_eq_true.mp DX11_isRooted_0 e he
  · exact List.all_eq_true.mp DX11_isRooted_1 e he
  · exact List.all_eq_true.mp DX11_isRooted_2 e he
theorem KX11_isRooted : zMK MX11_isRooted := ⟨OX11_isRooted, by decide +kernel, z_in (List.mem_of_getElem? (i := 1360) (by decide +kernel)), z_in (List.mem_of_getElem? (i := 11) (by decide +kernel)), by decide +kernel, by decide +kernel⟩
theorem IX11_isRooted : Jvm.Cond.instanceMethod yX11_isRooted ∈ lw_tbl := z_in (List.mem_of_getElem? (i := 1359) (by decide +kernel))
theorem VX11_isRooted : Jvm.Cond.selects "ShadowWardModel" yX11_isRooted yX11_isRooted ∈ lw_tbl := List.mem_append_left _ (List.mem_of_getElem? (i := 46) (by decide +kernel))
def CX11_walk_0 : List zEn := [(0, .iconst 0, 1, 0, 0), (1, .istore_n 1, 2, 0, 0), (2, .iload_n 1, 3, 0, 0), (3, .aload_n 0, 4, 0, 0), (4, .getfield 117, 7, 0, 146), (7, .if_icmp .ge 37, 10, 0, 44), (10, .aload_n 0, 11, 0, 0), (11, .getfield 72, 14, 0, 151), (14, .iload_n 1, 15, 0, 0), (15, .aload_n 0, 16, 0, 0), (16, .getfield 51, 19, 0, 141), (19, .iload_n 1, 20, 0, 0), (20, .iaload, 21, 0, 0), (21, .ifCond .ne 15, 24, 0, 36), (24, .aload_n 0, 25, 0, 0), (25, .iload_n 1, 26, 0, 0), (26, .invokevirtual 205, 29, 0, 264), (29, .ifCond .eq 7, 32, 0, 36), (32, .iconst 1, 33, 1, 0), (33, .goto 4, 36, 0, 37), (36, .iconst 0, 37, 0, 0), (37, .bastore, 38, 0, 0), (38, .iinc 1 1, 41, 1, 0), (41, .goto (-39), 44, 0, 2), (44, .iconst 1, 45, 1, 0), (45, .istore_n 1, 46, 0, 0), (46, .iload_n 1, 47, 0, 0), (47, .ifCond .eq 119, 50, 0, 166), (50, .iconst 0, 51, 0, 0), (51, .istore_n 1, 52, 0, 0)]
def CX11_walk_1 : List zEn := [(52, .iconst 0, 53, 0, 0), (53, .istore_n 2, 54, 0, 0), (54, .iload_n 2, 55, 0, 0), (55, .aload_n 0, 56, 0, 0), (56, .getfield 117, 59, 0, 146), (59, .if_icmp .ge 104, 62, 0, 163), (62, .aload_n 0, 63, 0, 0), (63, .getfield 51, 66, 0, 141), (66, .iload_n 2, 67, 0, 0), (67, .iaload, 68, 0, 0), (68, .ifCond .ne 89, 71, 0, 157), (71, .aload_n 0, 72, 0, 0), (72, .getfield 72, 75, 0, 151), (75, .iload_n 2, 76, 0, 0), (76, .baload, 77, 0, 0), (77, .ifCond .eq 6, 80, 0, 83), (80, .goto 77, 83, 0, 157), (83, .iconst 0, 84, 0, 0), (84, .istore_n 3, 85, 0, 0), (85, .iload_n 3, 86, 0, 0), (86, .aload_n 0, 87, 0, 0), (87, .getfield 117, 90, 0, 146), (90, .if_icmp .ge 58, 93, 0, 148), (93, .aload_n 0, 94, 0, 0), (94, .getfield 72, 97, 0, 151), (97, .iload_n 2, 98, 0, 0), (98, .baload, 99, 0, 0), (99, .ifCond .ne 49, 102, 0, 148), (102, .aload_n 0, 103, 0, 0), (103, .getfield 72, 106, 0, 151)]
def CX11_walk_2 : List zEn := [(106, .iload_n 2, 107, 0, 0), (107, .aload_n 0, 108, 0, 0), (108, .getfield 72, 111, 0, 151), (111, .iload_n 3, 112, 0, 0), (112, .baload, 113, 0, 0), (113, .ifCond .eq 27, 116, 0, 140), (116, .aload_n 0, 117, 0, 0), (117, .aload_n 0, 118, 0, 0), (118, .getfield 42, 121, 0, 138), (121, .iload_n 3, 122, 0, 0), (122, .iaload, 123, 0, 0), (123, .aload_n 0, 124, 0, 0), (124, .getfield 45, 127, 0, 139), (127, .iload_n 3, 128, 0, 0), (128, .iaload, 129, 0, 0), (129, .iload_n 2, 130, 0, 0), (130, .invokevirtual 201, 133, 0, 265), (133, .ifCond .eq 7, 136, 0, 140), (136, .iconst 1, 137, 1, 0), (137, .goto 4, 140, 0, 141), (140, .iconst 0, 141, 0, 0), (141, .bastore, 142, 0, 0), (142, .iinc 3 1, 145, 1, 0), (145, .goto (-60), 148, 0, 85), (148, .iload_n 1, 149, 0, 0), (149, .aload_n 0, 150, 0, 0), (150, .getfield 72, 153, 0, 151), (153, .iload_n 2, 154, 0, 0), (154, .baload, 155, 0, 0), (155, .ior, 156, 0, 0)]
def CX11_walk_3 : List zEn := [(156, .istore_n 1, 157, 0, 0), (157, .iinc 2 1, 160, 1, 0), (160, .goto (-106), 163, 0, 54), (163, .goto (-117), 166, 0, 46), (166, .return_, 167, 0, 0)]
def MX11_walk : zMI := (yX11_walk, cX11_walk, 4, none, [(52, CX11_walk_0), (106, CX11_walk_1), (156, CX11_walk_2), (99999, CX11_walk_3)], [])
theorem DX11_walk_0 : CX11_walk_0.all (zchk cX11_walk) = true := by decide +kernel
theorem DX11_walk_1 : CX11_walk_1.all (zchk cX11_walk) = true := by decide +kernel
theorem DX11_walk_2 : CX11_walk_2.all (zchk cX11_walk) = true := by decide +kernel
theorem DX11_walk_3 : CX11_walk_3.all (zchk cX11_walk) = true := by decide +kernel
theorem OX11_walk : zMOK MX11_walk := by
  intro q hq e he
  simp only [MX11_walk, zFt, List.mem_cons, List.not_mem_nil, or_false] at hq
  rcases hq with rfl | rfl | rfl | rfl
  · exact List.all_eq_true.mp DX11_walk_0 e he
  · exact List.all_eq_true.mp DX11_walk_1 e he
  · exact List.all_eq_true.mp DX11_walk_2 e he
  · exact List.all_eq_true.mp DX11_walk_3 e he
theorem KX11_walk : zMK MX11_walk := ⟨OX11_walk, by decide +kernel, z_in (List.mem_of_getElem? (i := 1356) (by decide +kernel)), z_in (List.mem_of_getElem? (i := 11) (by decide +kernel)), by decide +kernel, by decide +kernel⟩
theorem IX11_walk : Jvm.Cond.instanceMethod yX11_walk ∈ lw_tbl := z_in (List.mem_of_getElem? (i := 1355) (by decide +kernel))
theorem VX11_walk : Jvm.Cond.selects "ShadowWardModel" yX11_walk yX11_walk ∈ lw_tbl := List.mem_append_left _ (List.mem_of_getElem? (i := 45) (by decide +kernel))
def CX11_isLost_0 : List zEn := [(0, .aload_n 0, 1, 0, 0), (1, .getfield 51, 4, 0, 141), (4, .iload_n 1, 5, 0, 0), (5, .iaload, 6, 0, 0), (6, .ifCond .ne 16, 9, 0, 22), (9, .aload_n 0, 10, 0, 0), (10, .getfield 72, 13, 0, 151), (13, .iload_n 1, 14, 0, 0), (14, .baload, 15, 0, 0), (15, .ifCond .ne 7, 18, 0, 22), (18, .iconst 1, 19, 1, 0), (19, .goto 4, 22, 0, 23), (22, .iconst 0, 23, 0, 0), (23, .ireturn, 24, 0, 0)]
def MX11_isLost : zMI := (yX11_isLost, cX11_isLost, 2, (some .boolean), [(99999, CX11_isLost_0)], [])
theorem DX11_isLost_0 : CX11_isLost_0.all (zchk cX11_isLost) = true := by decide +kernel
theorem OX11_isLost : zMOK MX11_isLost := by
  intro q hq e he
  simp only [MX11_isLost, zFt, List.mem_cons, List.not_mem_nil, or_false] at hq
  rcases hq with rfl
  · exact List.all_eq_true.mp DX11_isLost_0 e he
theorem KX11_isLost : zMK MX11_isLost := ⟨OX11_isLost, by decide +kernel, z_in (List.mem_of_getElem? (i := 1373) (by decide +kernel)), z_in (List.mem_of_getElem? (i := 11) (by decide +kernel)), by decide +kernel, by decide +kernel⟩
theorem IX11_isLost : Jvm.Cond.instanceMethod yX11_isLost ∈ lw_tbl := z_in (List.mem_of_getElem? (i := 1372) (by decide +kernel))
theorem VX11_isLost : Jvm.Cond.selects "ShadowWardModel" yX11_isLost yX11_isLost ∈ lw_tbl := List.mem_append_left _ (List.mem_of_getElem? (i := 49) (by decide +kernel))
def CX11_isAlone_0 : List zEn := [(0, .iconst 0, 1, 0, 0), (1, .istore_n 2, 2, 0, 0), (2, .iload_n 2, 3, 0, 0), (3, .aload_n 0, 4, 0, 0), (4, .getfield 117, 7, 0, 146), (7, .if_icmp .ge 44, 10, 0, 51), (10, .iload_n 2, 11, 0, 0), (11, .iload_n 1, 12, 0, 0), (12, .if_icmp .eq 33, 15, 0, 45), (15, .aload_n 0, 16, 0, 0), (16, .iload_n 2, 17, 0, 0), (17, .invokevirtual 208, 20, 0, 267), (20, .ifCond .eq 25, 23, 0, 45), (23, .aload_n 0, 24, 0, 0), (24, .aload_n 0, 25, 0, 0), (25, .getfield 42, 28, 0, 138), (28, .iload_n 2, 29, 0, 0), (29, .iaload, 30, 0, 0), (30, .aload_n 0, 31, 0, 0), (31, .getfield 45, 34, 0, 139), (34, .iload_n 2, 35, 0, 0), (35, .iaload, 36, 0, 0), (36, .iload_n 1, 37, 0, 0), (37, .invokevirtual 201, 40, 0, 265), (40, .ifCond .eq 5, 43, 0, 45), (43, .iconst 0, 44, 0, 0), (44, .ireturn, 45, 0, 0), (45, .iinc 2 1, 48, 1, 0), (48, .goto (-46), 51, 0, 2), (51, .iconst 1, 52, 1, 0)]
def CX11_isAlone_1 : List zEn := [(52, .ireturn, 53, 0, 0)]
def MX11_isAlone : zMI := (yX11_isAlone, cX11_isAlone, 3, (some .boolean), [(52, CX11_isAlone_0), (99999, CX11_isAlone_1)], [])
theorem DX11_isAlone_0 : CX11_isAlone_0.all (zchk cX11_isAlone) = true := by decide +kernel
theorem DX11_isAlone_1 : CX11_isAlone_1.all (zchk cX11_isAlone) = true := by decide +kernel
theorem OX11_isAlone : zMOK MX11_isAlone := by
  intro q hq e he
  simp only [MX11_isAlone, zFt, List.mem_cons, List.not_mem_nil, or_false] at hq
  rcases hq with rfl | rfl
  · exact List.all_eq_true.mp DX11_isAlone_0 e he
  · exact List.all_eq_true.mp DX11_isAlone_1 e he
theorem KX11_isAlone : zMK MX11_isAlone := ⟨OX11_isAlone, by decide +kernel, z_in (List.mem_of_getElem? (i := 1377) (by decide +kernel)), z_in (List.mem_of_getElem? (i := 11) (by decide +kernel)), by decide +kernel, by decide +kernel⟩
theorem IX11_isAlone : Jvm.Cond.instanceMethod yX11_isAlone ∈ lw_tbl := z_in (List.mem_of_getElem? (i := 1376) (by decide +kernel))
theorem VX11_isAlone : Jvm.Cond.selects "ShadowWardModel" yX11_isAlone yX11_isAlone ∈ lw_tbl := List.mem_append_left _ (List.mem_of_getElem? (i := 50) (by decide +kernel))
def CX11_lost_0 : List zEn := [(0, .aload_n 0, 1, 0, 0), (1, .iconst 0, 2, 0, 0), (2, .putfield 85, 5, 0, 123), (5, .aload_n 0, 6, 0, 0), (6, .invokevirtual 211, 9, 0, 263), (9, .iload_n 1, 10, 0, 0), (10, .ifCond .ge 7, 13, 0, 17), (13, .iconst 0, 14, 0, 0), (14, .goto 4, 17, 0, 18), (17, .iload_n 1, 18, 0, 0), (18, .istore_n 3, 19, 0, 0), (19, .iload_n 3, 20, 0, 0), (20, .aload_n 0, 21, 0, 0), (21, .getfield 117, 24, 0, 146), (24, .if_icmp .ge 31, 27, 0, 55), (27, .aload_n 0, 28, 0, 0), (28, .iload_n 3, 29, 0, 0), (29, .invokevirtual 208, 32, 0, 267), (32, .ifCond .eq 17, 35, 0, 49), (35, .iload_n 2, 36, 0, 0), (36, .ifCond .eq 11, 39, 0, 47), (39, .aload_n 0, 40, 0, 0), (40, .iload_n 3, 41, 0, 0), (41, .invokevirtual 214, 44, 0, 268), (44, .ifCond .eq 5, 47, 0, 49), (47, .iload_n 3, 48, 0, 0), (48, .ireturn, 49, 0, 0), (49, .iinc 3 1, 52, 1, 0), (52, .goto (-33), 55, 0, 19), (55, .iconst (-1), 56, (-1), 0)]
def CX11_lost_1 : List zEn := [(56, .ireturn, 57, 0, 0)]
def MX11_lost : zMI := (yX11_lost, cX11_lost, 4, (some .int), [(56, CX11_lost_0), (99999, CX11_lost_1)], [])
theorem DX11_lost_0 : CX11_lost_0.all (zchk cX11_lost) = true := by decide +kernel
theorem DX11_lost_1 : CX11_lost_1.all (zchk cX11_lost) = true := by decide +kernel
theorem OX11_lost : zMOK MX11_lost := by
  intro q hq e he
  simp only [MX11_lost, zFt, List.mem_cons, List.not_mem_nil, or_false] at hq
  rcases hq with rfl | rfl
  · exact List.all_eq_true.mp DX11_lost_0 e he
  · exact List.all_eq_true.mp DX11_lost_1 e he
theorem KX11_lost : zMK MX11_lost := ⟨OX11_lost, by decide +kernel, z_in (List.mem_of_getElem? (i := 1352) (by decide +kernel)), z_in (List.mem_of_getElem? (i := 11) (by decide +kernel)), by decide +kernel, by decide +kernel⟩
theorem IX11_lost : Jvm.Cond.instanceMethod yX11_lost ∈ lw_tbl := z_in (List.mem_of_getElem? (i := 1350) (by decide +kernel))
theorem VX11_lost : Jvm.Cond.selects "ShadowWardModel" yX11_lost yX11_lost ∈ lw_tbl := z_in (List.mem_of_getElem? (i := 1351) (by decide +kernel))
def CX11_told_0 : List zEn := [(0, .aload_n 0, 1, 0, 0), (1, .iload_n 1, 2, 0, 0), (2, .ifCond .lt 9, 5, 0, 11), (5, .iload_n 1, 6, 0, 0), (6, .bipush 11, 8, 11, 0), (8, .if_icmp .le 7, 11, 0, 15), (11, .iconst 1, 12, 1, 0), (12, .goto 4, 15, 0, 16), (15, .iconst 0, 16, 0, 0), (16, .invokevirtual 88, 19, 0, 216), (19, .ifCond .eq 5, 22, 0, 24), (22, .iconst 0, 23, 0, 0), (23, .ireturn, 24, 0, 0), (24, .iconst 0, 25, 0, 0), (25, .istore_n 2, 26, 0, 0), (26, .iconst 0, 27, 0, 0), (27, .istore_n 3, 28, 0, 0), (28, .iconst 0, 29, 0, 0), (29, .istore 4, 31, 0, 0), (31, .iload 4, 33, 0, 0), (33, .aload_n 0, 34, 0, 0), (34, .getfield 117, 37, 0, 146), (37, .if_icmp .ge 51, 40, 0, 88), (40, .iload_n 2, 41, 0, 0), (41, .aload_n 0, 42, 0, 0), (42, .getfield 51, 45, 0, 141), (45, .iload 4, 47, 0, 0), (47, .iaload, 48, 0, 0), (48, .ifCond .ne 7, 51, 0, 55), (51, .iconst 1, 52, 1, 0)]
def CX11_told_1 : List zEn := [(52, .goto 4, 55, 0, 56), (55, .iconst 0, 56, 0, 0), (56, .iadd, 57, 0, 0), (57, .istore_n 2, 58, 0, 0), (58, .iload_n 3, 59, 0, 0), (59, .aload_n 0, 60, 0, 0), (60, .getfield 51, 63, 0, 141), (63, .iload 4, 65, 0, 0), (65, .iaload, 66, 0, 0), (66, .ifCond .ne 13, 69, 0, 79), (69, .aload_n 0, 70, 0, 0), (70, .getfield 57, 73, 0, 143), (73, .iload 4, 75, 0, 0), (75, .iaload, 76, 0, 0), (76, .goto 4, 79, 0, 80), (79, .iconst 0, 80, 0, 0), (80, .iadd, 81, 0, 0), (81, .istore_n 3, 82, 0, 0), (82, .iinc 4 1, 85, 1, 0), (85, .goto (-54), 88, 0, 31), (88, .iload_n 1, 89, 0, 0), (89, .tableswitch 108 0 10 #[59, 64, 69, 74, 79, 84, 86, 91, 96, 101, 103], 148, 0, 0), (148, .aload_n 0, 149, 0, 0), (149, .getfield 78, 152, 0, 124), (152, .ireturn, 153, 0, 0), (153, .aload_n 0, 154, 0, 0), (154, .getfield 82, 157, 0, 125), (157, .ireturn, 158, 0, 0), (158, .aload_n 0, 159, 0, 0), (159, .getfield 92, 162, 0, 130)]
def CX11_told_2 : List zEn := [(162, .ireturn, 163, 0, 0), (163, .aload_n 0, 164, 0, 0), (164, .getfield 102, 167, 0, 137), (167, .ireturn, 168, 0, 0), (168, .aload_n 0, 169, 0, 0), (169, .getfield 117, 172, 0, 146), (172, .ireturn, 173, 0, 0), (173, .iload_n 2, 174, 0, 0), (174, .ireturn, 175, 0, 0), (175, .aload_n 0, 176, 0, 0), (176, .getfield 157, 179, 0, 150), (179, .ireturn, 180, 0, 0), (180, .aload_n 0, 181, 0, 0), (181, .getfield 123, 184, 0, 148), (184, .ireturn, 185, 0, 0), (185, .aload_n 0, 186, 0, 0), (186, .invokevirtual 139, 189, 0, 240), (189, .ireturn, 190, 0, 0), (190, .iload_n 3, 191, 0, 0), (191, .ireturn, 192, 0, 0), (192, .aload_n 0, 193, 0, 0), (193, .invokevirtual 217, 196, 0, 270), (196, .ireturn, 197, 0, 0), (197, .aload_n 0, 198, 0, 0), (198, .invokevirtual 211, 201, 0, 263), (201, .iconst 0, 202, 0, 0), (202, .istore 4, 204, 0, 0), (204, .iconst 0, 205, 0, 0), (205, .istore 5, 207, 0, 0), (207, .iload 5, 209, 0, 0)]
def CX11_told_3 : List zEn := [(209, .aload_n 0, 210, 0, 0), (210, .getfield 117, 213, 0, 146), (213, .if_icmp .ge 28, 216, 0, 241), (216, .iload 4, 218, 0, 0), (218, .aload_n 0, 219, 0, 0), (219, .iload 5, 221, 0, 0), (221, .invokevirtual 208, 224, 0, 267), (224, .ifCond .eq 7, 227, 0, 231), (227, .iconst 1, 228, 1, 0), (228, .goto 4, 231, 0, 232), (231, .iconst 0, 232, 0, 0), (232, .iadd, 233, 0, 0), (233, .istore 4, 235, 0, 0), (235, .iinc 5 1, 238, 1, 0), (238, .goto (-31), 241, 0, 207), (241, .iload 4, 243, 0, 0), (243, .ireturn, 244, 0, 0)]
def MX11_told : zMI := (yX11_told, cX11_told, 6, (some .int), [(52, CX11_told_0), (162, CX11_told_1), (209, CX11_told_2), (99999, CX11_told_3)], [])
theorem DX11_told_0 : CX11_told_0.all (zchk cX11_told) = true := by decide +kernel
theorem DX11_told_1 : CX11_told_1.all (zchk cX11_told) = true := by decide +kernel
theorem DX11_told_2 : CX11_told_2.all (zchk cX11_told) = true := by decide +kernel
theorem DX11_told_3 : CX11_told_3.all (zchk cX11_told) = true := by decide +kernel
theorem OX11_told : zMOK MX11_told := by
  intro q hq e he
  simp only [MX11_told, zFt, List.mem_cons, List.not_mem_nil, or_false] at hq
  rcases hq with rfl | rfl | rfl | rfl
  · exact List.all_eq_true.mp DX11_told_0 e he
  · exact List.all_eq_true.mp DX11_told_1 e he
  · exact List.all_eq_true.mp DX11_told_2 e he
  · exact List.all_eq_true.mp DX11_told_3 e he
theorem KX11_told : zMK MX11_told := ⟨OX11_told, by decide +kernel, z_in (List.mem_of_getElem? (i := 1381) (by decide +kernel)), z_in (List.mem_of_getElem? (i := 11) (by decide +kernel)), by decide +kernel, by decide +kernel⟩
theorem IX11_told : Jvm.Cond.instanceMethod yX11_told ∈ lw_tbl := z_in (List.mem_of_getElem? (i := 1379) (by decide +kernel))
theorem VX11_told : Jvm.Cond.selects "ShadowWardModel" yX11_told yX11_told ∈ lw_tbl := z_in (List.mem_of_getElem? (i := 1380) (by decide +kernel))
def CX11_good_0 : List zEn := [(0, .iconst 0, 1, 0, 0), (1, .istore_n 1, 2, 0, 0), (2, .iconst 0, 3, 0, 0), (3, .istore_n 2, 4, 0, 0), (4, .iload_n 2, 5, 0, 0), (5, .aload_n 0, 6, 0, 0), (6, .getfield 78, 9, 0, 124), (9, .if_icmp .ge 26, 12, 0, 35), (12, .iload_n 1, 13, 0, 0), (13, .aload_n 0, 14, 0, 0), (14, .iload_n 2, 15, 0, 0), (15, .i2l, 16, 0, 0), (16, .invokevirtual 173, 19, 0, 244), (19, .ifCond .ne 7, 22, 0, 26), (22, .iconst 1, 23, 1, 0), (23, .goto 4, 26, 0, 27), (26, .iconst 0, 27, 0, 0), (27, .iadd, 28, 0, 0), (28, .istore_n 1, 29, 0, 0), (29, .iinc 2 1, 32, 1, 0), (32, .goto (-28), 35, 0, 4), (35, .iload_n 1, 36, 0, 0), (36, .ireturn, 37, 0, 0)]
def MX11_good : zMI := (yX11_good, cX11_good, 3, (some .int), [(99999, CX11_good_0)], [])
theorem DX11_good_0 : CX11_good_0.all (zchk cX11_good) = true := by decide +kernel
theorem OX11_good : zMOK MX11_good := by
  intro q hq e he
  simp only [MX11_good, zFt, List.mem_cons, List.not_mem_nil, or_false] at hq
  rcases hq with rfl
  · exact List.all_eq_true.mp DX11_good_0 e he
theorem KX11_good : zMK MX11_good := ⟨OX11_good, by decide +kernel, z_in (List.mem_of_getElem? (i := 1385) (by decide +kernel)), z_in (List.mem_of_getElem? (i := 11) (by decide +kernel)), by decide +kernel, by decide +kernel⟩
theorem IX11_good : Jvm.Cond.instanceMethod yX11_good ∈ lw_tbl := z_in (List.mem_of_getElem? (i := 1384) (by decide +kernel))
theorem VX11_good : Jvm.Cond.selects "ShadowWardModel" yX11_good yX11_good ∈ lw_tbl := List.mem_append_left _ (List.mem_of_getElem? (i := 51) (by decide +kernel))
end
section
def CL_cell_0 : List zEn := [(0, .iload_n 1, 1, 0, 0), (1, .aload_n 0, 2, 0, 0), (2, .arraylength, 3, 0, 0), (3, .if_icmp .ge 9, 6, 0, 12), (6, .aload_n 0, 7, 0, 0), (7, .iload_n 1, 8, 0, 0), (8, .iaload, 9, 0, 0), (9, .goto 4, 12, 0, 13), (12, .iconst 0, 13, 0, 0), (13, .ireturn, 14, 0, 0)]
def ML_cell : zMI := (yL_cell, cL_cell, 2, (some .int), [(99999, CL_cell_0)], [])
theorem DL_cell_0 : CL_cell_0.all (zchk cL_cell) = true := by decide +kernel
theorem OL_cell : zMOK ML_cell := by
  intro q hq e he
  simp only [ML_cell, zFt, List.mem_cons, List.not_mem_nil, or_false] at hq
  rcases hq with rfl
  · exact List.all_eq_true.mp DL_cell_0 e he
theorem KL_cell : zMK ML_cell := ⟨OL_cell, by decide +kernel, z_in (List.mem_of_getElem? (i := 591) (by decide +kernel)), z_in (List.mem_of_getElem? (i := 0) (by decide +kernel)), by decide +kernel, by decide +kernel⟩
theorem SL_cell : Jvm.Cond.static yL_cell ∈ lw_tbl := z_in (List.mem_of_getElem? (i := 590) (by decide +kernel))
def CL_global_0 : List zEn := [(0, .aload_n 2, 1, 0, 0), (1, .iconst 0, 2, 0, 0), (2, .aload_n 0, 3, 0, 0), (3, .iload_n 1, 4, 0, 0), (4, .invokevirtual 7, 7, 0, 104), (7, .i2l, 8, 0, 0), (8, .lastore, 9, 0, 0), (9, .goto 6, 12, 0, 15), (12, .astore_n 3, 13, 0, 0), (13, .iconst 1, 14, 1, 0), (14, .ireturn, 15, 0, 0), (15, .iconst 0, 16, 0, 0), (16, .ireturn, 17, 0, 0)]
def ML_global : zMI := (yL_global, cL_global, 4, (some .int), [(99999, CL_global_0)], [(0, 9, 12, 13)])
theorem DL_global_0 : CL_global_0.all (zchk cL_global) = true := by decide +kernel
theorem OL_global : zMOK ML_global := by
  intro q hq e he
  simp only [ML_global, zFt, List.mem_cons, List.not_mem_nil, or_false] at hq
  rcases hq with rfl
  · exact List.all_eq_true.mp DL_global_0 e he
theorem KL_global : zMK ML_global := ⟨OL_global, by decide +kernel, z_in (List.mem_of_getElem? (i := 594) (by decide +kernel)), z_in (List.mem_of_getElem? (i := 0) (by decide +kernel)), by decide +kernel, by decide +kernel⟩
theorem SL_global : Jvm.Cond.static yL_global ∈ lw_tbl := z_in (List.mem_of_getElem? (i := 593) (by decide +kernel))
def CL_enter_0 : List zEn := [(0, .aload 5, 2, 0, 0), (2, .iconst 0, 3, 0, 0), (3, .aload_n 0, 4, 0, 0), (4, .iload_n 1, 5, 0, 0), (5, .iload_n 2, 6, 0, 0), (6, .iload_n 3, 7, 0, 0), (7, .iload 4, 9, 0, 0), (9, .invokevirtual 15, 12, 0, 112), (12, .i2l, 13, 0, 0), (13, .lastore, 14, 0, 0), (14, .goto 7, 17, 0, 21), (17, .astore 6, 19, 0, 0), (19, .iconst 1, 20, 1, 0), (20, .ireturn, 21, 0, 0), (21, .iconst 0, 22, 0, 0), (22, .ireturn, 23, 0, 0)]
def ML_enter : zMI := (yL_enter, cL_enter, 7, (some .int), [(99999, CL_enter_0)], [(0, 14, 17, 13)])
theorem DL_enter_0 : CL_enter_0.all (zchk cL_enter) = true := by decide +kernel
theorem OL_enter : zMOK ML_enter := by
  intro q hq e he
  simp only [ML_enter, zFt, List.mem_cons, List.not_mem_nil, or_false] at hq
  rcases hq with rfl
  · exact List.all_eq_true.mp DL_enter_0 e he
theorem KL_enter : zMK ML_enter := ⟨OL_enter, by decide +kernel, z_in (List.mem_of_getElem? (i := 673) (by decide +kernel)), z_in (List.mem_of_getElem? (i := 0) (by decide +kernel)), by decide +kernel, by decide +kernel⟩
theorem SL_enter : Jvm.Cond.static yL_enter ∈ lw_tbl := z_in (List.mem_of_getElem? (i := 672) (by decide +kernel))
def CL_leave_0 : List zEn := [(0, .aload_n 1, 1, 0, 0), (1, .iconst 0, 2, 0, 0), (2, .aload_n 0, 3, 0, 0), (3, .invokevirtual 19, 6, 0, 127), (6, .i2l, 7, 0, 0), (7, .lastore, 8, 0, 0), (8, .goto 6, 11, 0, 14), (11, .astore_n 2, 12, 0, 0), (12, .iconst 1, 13, 1, 0), (13, .ireturn, 14, 0, 0), (14, .iconst 0, 15, 0, 0), (15, .ireturn, 16, 0, 0)]
def ML_leave : zMI := (yL_leave, cL_leave, 3, (some .int), [(99999, CL_leave_0)], [(0, 8, 11, 23)])
theorem DL_leave_0 : CL_leave_0.all (zchk cL_leave) = true := by decide +kernel
theorem OL_leave : zMOK ML_leave := by
  intro q hq e he
  simp only [ML_leave, zFt, List.mem_cons, List.not_mem_nil, or_false] at hq
  rcases hq with rfl
  · exact List.all_eq_true.mp DL_leave_0 e he
theorem KL_leave : zMK ML_leave := ⟨OL_leave, by decide +kernel, z_in (List.mem_of_getElem? (i := 743) (by decide +kernel)), z_in (List.mem_of_getElem? (i := 0) (by decide +kernel)), by decide +kernel, by decide +kernel⟩
theorem SL_leave : Jvm.Cond.static yL_leave ∈ lw_tbl := z_in (List.mem_of_getElem? (i := 742) (by decide +kernel))
def CL_scope_0 : List zEn := [(0, .aload 4, 2, 0, 0), (2, .iconst 0, 3, 0, 0), (3, .aload_n 0, 4, 0, 0), (4, .iload_n 1, 5, 0, 0), (5, .iload_n 2, 6, 0, 0), (6, .iload_n 3, 7, 0, 0), (7, .invokevirtual 25, 10, 0, 136), (10, .ifCond .eq 7, 13, 0, 17), (13, .lconst 1, 14, 0, 0), (14, .goto 4, 17, 0, 18), (17, .lconst 0, 18, 0, 0), (18, .lastore, 19, 0, 0), (19, .goto 7, 22, 0, 26), (22, .astore 5, 24, 0, 0), (24, .iconst 1, 25, 1, 0), (25, .ireturn, 26, 0, 0), (26, .iconst 0, 27, 0, 0), (27, .ireturn, 28, 0, 0)]
def ML_scope : zMI := (yL_scope, cL_scope, 6, (some .int), [(99999, CL_scope_0)], [(0, 19, 22, 29)])
theorem DL_scope_0 : CL_scope_0.all (zchk cL_scope) = true := by decide +kernel
theorem OL_scope : zMOK ML_scope := by
  intro q hq e he
  simp only [ML_scope, zFt, List.mem_cons, List.not_mem_nil, or_false] at hq
  rcases hq with rfl
  · exact List.all_eq_true.mp DL_scope_0 e he
theorem KL_scope : zMK ML_scope := ⟨OL_scope, by decide +kernel, z_in (List.mem_of_getElem? (i := 781) (by decide +kernel)), z_in (List.mem_of_getElem? (i := 0) (by decide +kernel)), by decide +kernel, by decide +kernel⟩
theorem SL_scope : Jvm.Cond.static yL_scope ∈ lw_tbl := z_in (List.mem_of_getElem? (i := 780) (by decide +kernel))
def CL_variable_0 : List zEn := [(0, .aload_n 3, 1, 0, 0), (1, .iconst 0, 2, 0, 0), (2, .aload_n 0, 3, 0, 0), (3, .iload_n 1, 4, 0, 0), (4, .iload_n 2, 5, 0, 0), (5, .invokevirtual 31, 8, 0, 144), (8, .i2l, 9, 0, 0), (9, .lastore, 10, 0, 0), (10, .goto 7, 13, 0, 17), (13, .astore 4, 15, 0, 0), (15, .iconst 1, 16, 1, 0), (16, .ireturn, 17, 0, 0), (17, .iconst 0, 18, 0, 0), (18, .ireturn, 19, 0, 0)]
def ML_variable : zMI := (yL_variable, cL_variable, 5, (some .int), [(99999, CL_variable_0)], [(0, 10, 13, 29)])
theorem DL_variable_0 : CL_variable_0.all (zchk cL_variable) = true := by decide +kernel
theorem OL_variable : zMOK ML_variable := by
  intro q hq e he
  simp only [ML_variable, zFt, List.mem_cons, List.not_mem_nil, or_false] at hq
  rcases hq with rfl
  · exact List.all_eq_true.mp DL_variable_0 e he
theorem KL_variable : zMK ML_variable := ⟨OL_variable, by decide +kernel, z_in (List.mem_of_getElem? (i := 819) (by decide +kernel)), z_in (List.mem_of_getElem? (i := 0) (by decide +kernel)), by decide +kernel, by decide +kernel⟩
theorem SL_variable : Jvm.Cond.static yL_variable ∈ lw_tbl := z_in (List.mem_of_getElem? (i := 818) (by decide +kernel))
def CL_allocate_0 : List zEn := [(0, .aload 4, 2, 0, 0), (2, .iconst 0, 3, 0, 0), (3, .aload_n 0, 4, 0, 0), (4, .iload_n 1, 5, 0, 0), (5, .iload_n 2, 6, 0, 0), (6, .iload_n 3, 7, 0, 0), (7, .invokevirtual 35, 10, 0, 146), (10, .i2l, 11, 0, 0), (11, .lastore, 12, 0, 0), (12, .goto 7, 15, 0, 19), (15, .astore 5, 17, 0, 0), (17, .iconst 1, 18, 1, 0), (18, .ireturn, 19, 0, 0), (19, .iconst 0, 20, 0, 0), (20, .ireturn, 21, 0, 0)]
def ML_allocate : zMI := (yL_allocate, cL_allocate, 6, (some .int), [(99999, CL_allocate_0)], [(0, 12, 15, 13)])
theorem DL_allocate_0 : CL_allocate_0.all (zchk cL_allocate) = true := by decide +kernel
theorem OL_allocate : zMOK ML_allocate := by
  intro q hq e he
  simp only [ML_allocate, zFt, List.mem_cons, List.not_mem_nil, or_false] at hq
  rcases hq with rfl
  · exact List.all_eq_true.mp DL_allocate_0 e he
theorem KL_allocate : zMK ML_allocate := ⟨OL_allocate, by decide +kernel, z_in (List.mem_of_getElem? (i := 826) (by decide +kernel)), z_in (List.mem_of_getElem? (i := 0) (by decide +kernel)), by decide +kernel, by decide +kernel⟩
theorem SL_allocate : Jvm.Cond.static yL_allocate ∈ lw_tbl := z_in (List.mem_of_getElem? (i := 825) (by decide +kernel))
def CL_free_0 : List zEn := [(0, .aload 4, 2, 0, 0), (2, .iconst 0, 3, 0, 0), (3, .aload_n 0, 4, 0, 0), (4, .iload_n 1, 5, 0, 0), (5, .iload_n 2, 6, 0, 0), (6, .iload_n 3, 7, 0, 0), (7, .invokevirtual 39, 10, 0, 167), (10, .ifCond .eq 7, 13, 0, 17), (13, .lconst 1, 14, 0, 0), (14, .goto 4, 17, 0, 18), (17, .lconst 0, 18, 0, 0), (18, .lastore, 19, 0, 0), (19, .goto 7, 22, 0, 26), (22, .astore 5, 24, 0, 0), (24, .iconst 1, 25, 1, 0), (25, .ireturn, 26, 0, 0), (26, .iconst 0, 27, 0, 0), (27, .ireturn, 28, 0, 0)]
def ML_free : zMI := (yL_free, cL_free, 6, (some .int), [(99999, CL_free_0)], [(0, 19, 22, 13)])
theorem DL_free_0 : CL_free_0.all (zchk cL_free) = true := by decide +kernel
theorem OL_free : zMOK ML_free := by
  intro q hq e he
  simp only [ML_free, zFt, List.mem_cons, List.not_mem_nil, or_false] at hq
  rcases hq with rfl
  · exact List.all_eq_true.mp DL_free_0 e he
theorem KL_free : zMK ML_free := ⟨OL_free, by decide +kernel, z_in (List.mem_of_getElem? (i := 915) (by decide +kernel)), z_in (List.mem_of_getElem? (i := 0) (by decide +kernel)), by decide +kernel, by decide +kernel⟩
theorem SL_free : Jvm.Cond.static yL_free ∈ lw_tbl := z_in (List.mem_of_getElem? (i := 914) (by decide +kernel))
def CL_resize_0 : List zEn := [(0, .aload 4, 2, 0, 0), (2, .iconst 0, 3, 0, 0), (3, .aload_n 0, 4, 0, 0), (4, .iload_n 1, 5, 0, 0), (5, .iload_n 2, 6, 0, 0), (6, .iload_n 3, 7, 0, 0), (7, .invokevirtual 43, 10, 0, 172), (10, .i2l, 11, 0, 0), (11, .lastore, 12, 0, 0), (12, .goto 7, 15, 0, 19), (15, .astore 5, 17, 0, 0), (17, .iconst 1, 18, 1, 0), (18, .ireturn, 19, 0, 0), (19, .iconst 0, 20, 0, 0), (20, .ireturn, 21, 0, 0)]
def ML_resize : zMI := (yL_resize, cL_resize, 6, (some .int), [(99999, CL_resize_0)], [(0, 12, 15, 13)])
theorem DL_resize_0 : CL_resize_0.all (zchk cL_resize) = true := by decide +kernel
theorem OL_resize : zMOK ML_resize := by
  intro q hq e he
  simp only [ML_resize, zFt, List.mem_cons, List.not_mem_nil, or_false] at hq
  rcases hq with rfl
  · exact List.all_eq_true.mp DL_resize_0 e he
theorem KL_resize : zMK ML_resize := ⟨OL_resize, by decide +kernel, z_in (List.mem_of_getElem? (i := 934) (by decide +kernel)), z_in (List.mem_of_getElem? (i := 0) (by decide +kernel)), by decide +kernel, by decide +kernel⟩
theorem SL_resize : Jvm.Cond.static yL_resize ∈ lw_tbl := z_in (List.mem_of_getElem? (i := 933) (by decide +kernel))
def CL_load_0 : List zEn := [(0, .aload_n 3, 1, 0, 0), (1, .iconst 0, 2, 0, 0), (2, .aload_n 0, 3, 0, 0), (3, .iload_n 1, 4, 0, 0), (4, .iload_n 2, 5, 0, 0), (5, .invokevirtual 46, 8, 0, 176), (8, .lastore, 9, 0, 0), (9, .goto 7, 12, 0, 16), (12, .astore 4, 14, 0, 0), (14, .iconst 1, 15, 1, 0), (15, .ireturn, 16, 0, 0), (16, .iconst 0, 17, 0, 0), (17, .ireturn, 18, 0, 0)]
def ML_load : zMI := (yL_load, cL_load, 5, (some .int), [(99999, CL_load_0)], [(0, 9, 12, 13)])
theorem DL_load_0 : CL_load_0.all (zchk cL_load) = true := by decide +kernel
theorem OL_load : zMOK ML_load := by
  intro q hq e he
  simp only [ML_load, zFt, List.mem_cons, List.not_mem_nil, or_false] at hq
  rcases hq with rfl
  · exact List.all_eq_true.mp DL_load_0 e he
theorem KL_load : zMK ML_load := ⟨OL_load, by decide +kernel, z_in (List.mem_of_getElem? (i := 943) (by decide +kernel)), z_in (List.mem_of_getElem? (i := 0) (by decide +kernel)), by decide +kernel, by decide +kernel⟩
theorem SL_load : Jvm.Cond.static yL_load ∈ lw_tbl := z_in (List.mem_of_getElem? (i := 942) (by decide +kernel))
def CL_store_0 : List zEn := [(0, .aload 5, 2, 0, 0), (2, .iconst 0, 3, 0, 0), (3, .aload_n 0, 4, 0, 0), (4, .iload_n 1, 5, 0, 0), (5, .iload_n 2, 6, 0, 0), (6, .lload_n 3, 7, 0, 0), (7, .invokevirtual 50, 10, 0, 179), (10, .ifCond .eq 7, 13, 0, 17), (13, .lconst 1, 14, 0, 0), (14, .goto 4, 17, 0, 18), (17, .lconst 0, 18, 0, 0), (18, .lastore, 19, 0, 0), (19, .goto 7, 22, 0, 26), (22, .astore 6, 24, 0, 0), (24, .iconst 1, 25, 1, 0), (25, .ireturn, 26, 0, 0), (26, .iconst 0, 27, 0, 0), (27, .ireturn, 28, 0, 0)]
def ML_store : zMI := (yL_store, cL_store, 7, (some .int), [(99999, CL_store_0)], [(0, 19, 22, 13)])
theorem DL_store_0 : CL_store_0.all (zchk cL_store) = true := by decide +kernel
theorem OL_store : zMOK ML_store := by
  intro q hq e he
  simp only [ML_store, zFt, List.mem_cons, List.not_mem_nil, or_false] at hq
  rcases hq with rfl
  · exact List.all_eq_true.mp DL_store_0 e he
theorem KL_store : zMK ML_store := ⟨OL_store, by decide +kernel, z_in (List.mem_of_getElem? (i := 951) (by decide +kernel)), z_in (List.mem_of_getElem? (i := 0) (by decide +kernel)), by decide +kernel, by decide +kernel⟩
theorem SL_store : Jvm.Cond.static yL_store ∈ lw_tbl := z_in (List.mem_of_getElem? (i := 950) (by decide +kernel))
def CL_fill_0 : List zEn := [(0, .aload 4, 2, 0, 0), (2, .iconst 0, 3, 0, 0), (3, .aload_n 0, 4, 0, 0), (4, .iload_n 1, 5, 0, 0), (5, .iload_n 2, 6, 0, 0), (6, .iload_n 3, 7, 0, 0), (7, .invokevirtual 54, 10, 0, 182), (10, .ifCond .eq 7, 13, 0, 17), (13, .lconst 1, 14, 0, 0), (14, .goto 4, 17, 0, 18), (17, .lconst 0, 18, 0, 0), (18, .lastore, 19, 0, 0), (19, .goto 7, 22, 0, 26), (22, .astore 5, 24, 0, 0), (24, .iconst 1, 25, 1, 0), (25, .ireturn, 26, 0, 0), (26, .iconst 0, 27, 0, 0), (27, .ireturn, 28, 0, 0)]
def ML_fill : zMI := (yL_fill, cL_fill, 6, (some .int), [(99999, CL_fill_0)], [(0, 19, 22, 13)])
theorem DL_fill_0 : CL_fill_0.all (zchk cL_fill) = true := by decide +kernel
theorem OL_fill : zMOK ML_fill := by
  intro q hq e he
  simp only [ML_fill, zFt, List.mem_cons, List.not_mem_nil, or_false] at hq
  rcases hq with rfl
  · exact List.all_eq_true.mp DL_fill_0 e he
theorem KL_fill : zMK ML_fill := ⟨OL_fill, by decide +kernel, z_in (List.mem_of_getElem? (i := 962) (by decide +kernel)), z_in (List.mem_of_getElem? (i := 0) (by decide +kernel)), by decide +kernel, by decide +kernel⟩
theorem SL_fill : Jvm.Cond.static yL_fill ∈ lw_tbl := z_in (List.mem_of_getElem? (i := 961) (by decide +kernel))
def CL_copy_0 : List zEn := [(0, .aload 5, 2, 0, 0), (2, .iconst 0, 3, 0, 0), (3, .aload_n 0, 4, 0, 0), (4, .iload_n 1, 5, 0, 0), (5, .iload_n 2, 6, 0, 0), (6, .iload_n 3, 7, 0, 0), (7, .iload 4, 9, 0, 0), (9, .invokevirtual 57, 12, 0, 185), (12, .ifCond .eq 7, 15, 0, 19), (15, .lconst 1, 16, 0, 0), (16, .goto 4, 19, 0, 20), (19, .lconst 0, 20, 0, 0), (20, .lastore, 21, 0, 0), (21, .goto 7, 24, 0, 28), (24, .astore 6, 26, 0, 0), (26, .iconst 1, 27, 1, 0), (27, .ireturn, 28, 0, 0), (28, .iconst 0, 29, 0, 0), (29, .ireturn, 30, 0, 0)]
def ML_copy : zMI := (yL_copy, cL_copy, 7, (some .int), [(99999, CL_copy_0)], [(0, 21, 24, 13)])
theorem DL_copy_0 : CL_copy_0.all (zchk cL_copy) = true := by decide +kernel
theorem OL_copy : zMOK ML_copy := by
  intro q hq e he
  simp only [ML_copy, zFt, List.mem_cons, List.not_mem_nil, or_false] at hq
  rcases hq with rfl
  · exact List.all_eq_true.mp DL_copy_0 e he
theorem KL_copy : zMK ML_copy := ⟨OL_copy, by decide +kernel, z_in (List.mem_of_getElem? (i := 970) (by decide +kernel)), z_in (List.mem_of_getElem? (i := 0) (by decide +kernel)), by decide +kernel, by decide +kernel⟩
theorem SL_copy : Jvm.Cond.static yL_copy ∈ lw_tbl := z_in (List.mem_of_getElem? (i := 969) (by decide +kernel))
def CL_compare_0 : List zEn := [(0, .aload 4, 2, 0, 0), (2, .iconst 0, 3, 0, 0), (3, .aload_n 0, 4, 0, 0), (4, .iload_n 1, 5, 0, 0), (5, .iload_n 2, 6, 0, 0), (6, .iload_n 3, 7, 0, 0), (7, .invokevirtual 61, 10, 0, 187), (10, .i2l, 11, 0, 0), (11, .lastore, 12, 0, 0), (12, .goto 7, 15, 0, 19), (15, .astore 5, 17, 0, 0), (17, .iconst 1, 18, 1, 0), (18, .ireturn, 19, 0, 0), (19, .iconst 0, 20, 0, 0), (20, .ireturn, 21, 0, 0)]
def ML_compare : zMI := (yL_compare, cL_compare, 6, (some .int), [(99999, CL_compare_0)], [(0, 12, 15, 13)])
theorem DL_compare_0 : CL_compare_0.all (zchk cL_compare) = true := by decide +kernel
theorem OL_compare : zMOK ML_compare := by
  intro q hq e he
  simp only [ML_compare, zFt, List.mem_cons, List.not_mem_nil, or_false] at hq
  rcases hq with rfl
  · exact List.all_eq_true.mp DL_compare_0 e he
theorem KL_compare : zMK ML_compare := ⟨OL_compare, by decide +kernel, z_in (List.mem_of_getElem? (i := 974) (by decide +kernel)), z_in (List.mem_of_getElem? (i := 0) (by decide +kernel)), by decide +kernel, by decide +kernel⟩
theorem SL_compare : Jvm.Cond.static yL_compare ∈ lw_tbl := z_in (List.mem_of_getElem? (i := 973) (by decide +kernel))
def CL_lock_0 : List zEn := [(0, .aload_n 3, 1, 0, 0), (1, .iconst 0, 2, 0, 0), (2, .aload_n 0, 3, 0, 0), (3, .iload_n 1, 4, 0, 0), (4, .iload_n 2, 5, 0, 0), (5, .invokevirtual 64, 8, 0, 189), (8, .i2l, 9, 0, 0), (9, .lastore, 10, 0, 0), (10, .goto 7, 13, 0, 17), (13, .astore 4, 15, 0, 0), (15, .iconst 1, 16, 1, 0), (16, .ireturn, 17, 0, 0), (17, .iconst 0, 18, 0, 0), (18, .ireturn, 19, 0, 0)]
def ML_lock : zMI := (yL_lock, cL_lock, 5, (some .int), [(99999, CL_lock_0)], [(0, 10, 13, 13)])
theorem DL_lock_0 : CL_lock_0.all (zchk cL_lock) = true := by decide +kernel
theorem OL_lock : zMOK ML_lock := by
  intro q hq e he
  simp only [ML_lock, zFt, List.mem_cons, List.not_mem_nil, or_false] at hq
  rcases hq with rfl
  · exact List.all_eq_true.mp DL_lock_0 e he
theorem KL_lock : zMK ML_lock := ⟨OL_lock, by decide +kernel, z_in (List.mem_of_getElem? (i := 981) (by decide +kernel)), z_in (List.mem_of_getElem? (i := 0) (by decide +kernel)), by decide +kernel, by decide +kernel⟩
theorem SL_lock : Jvm.Cond.static yL_lock ∈ lw_tbl := z_in (List.mem_of_getElem? (i := 980) (by decide +kernel))
def CL_unlock_0 : List zEn := [(0, .aload_n 3, 1, 0, 0), (1, .iconst 0, 2, 0, 0), (2, .aload_n 0, 3, 0, 0), (3, .iload_n 1, 4, 0, 0), (4, .iload_n 2, 5, 0, 0), (5, .invokevirtual 67, 8, 0, 193), (8, .i2l, 9, 0, 0), (9, .lastore, 10, 0, 0), (10, .goto 7, 13, 0, 17), (13, .astore 4, 15, 0, 0), (15, .iconst 1, 16, 1, 0), (16, .ireturn, 17, 0, 0), (17, .iconst 0, 18, 0, 0), (18, .ireturn, 19, 0, 0)]
def ML_unlock : zMI := (yL_unlock, cL_unlock, 5, (some .int), [(99999, CL_unlock_0)], [(0, 10, 13, 13)])
theorem DL_unlock_0 : CL_unlock_0.all (zchk cL_unlock) = true := by decide +kernel
theorem OL_unlock : zMOK ML_unlock := by
  intro q hq e he
  simp only [ML_unlock, zFt, List.mem_cons, List.not_mem_nil, or_false] at hq
  rcases hq with rfl
  · exact List.all_eq_true.mp DL_unlock_0 e he
theorem KL_unlock : zMK ML_unlock := ⟨OL_unlock, by decide +kernel, z_in (List.mem_of_getElem? (i := 993) (by decide +kernel)), z_in (List.mem_of_getElem? (i := 0) (by decide +kernel)), by decide +kernel, by decide +kernel⟩
theorem SL_unlock : Jvm.Cond.static yL_unlock ∈ lw_tbl := z_in (List.mem_of_getElem? (i := 992) (by decide +kernel))
def CL_report_0 : List zEn := [(0, .aload_n 3, 1, 0, 0), (1, .iconst 0, 2, 0, 0), (2, .aload_n 0, 3, 0, 0), (3, .iload_n 1, 4, 0, 0), (4, .iload_n 2, 5, 0, 0), (5, .invokevirtual 70, 8, 0, 195), (8, .i2l, 9, 0, 0), (9, .lastore, 10, 0, 0), (10, .goto 11, 13, 0, 21), (13, .astore 4, 15, 0, 0), (15, .iconst 1, 16, 1, 0), (16, .ireturn, 17, 0, 0), (17, .astore 4, 19, 0, 0), (19, .iconst 2, 20, 2, 0), (20, .ireturn, 21, 0, 0), (21, .iconst 0, 22, 0, 0), (22, .ireturn, 23, 0, 0)]
def ML_report : zMI := (yL_report, cL_report, 5, (some .int), [(99999, CL_report_0)], [(0, 10, 13, 29), (0, 10, 17, 13)])
theorem DL_report_0 : CL_report_0.all (zchk cL_report) = true := by decide +kernel
theorem OL_report : zMOK ML_report := by
  intro q hq e he
  simp only [ML_report, zFt, List.mem_cons, List.not_mem_nil, or_false] at hq
  rcases hq with rfl
  · exact List.all_eq_true.mp DL_report_0 e he
theorem KL_report : zMK ML_report := ⟨OL_report, by decide +kernel, z_in (List.mem_of_getElem? (i := 1000) (by decide +kernel)), z_in (List.mem_of_getElem? (i := 0) (by decide +kernel)), by decide +kernel, by decide +kernel⟩
theorem SL_report : Jvm.Cond.static yL_report ∈ lw_tbl := z_in (List.mem_of_getElem? (i := 999) (by decide +kernel))
def CL_block_0 : List zEn := [(0, .aload_n 3, 1, 0, 0), (1, .iconst 0, 2, 0, 0), (2, .aload_n 0, 3, 0, 0), (3, .iload_n 1, 4, 0, 0), (4, .iload_n 2, 5, 0, 0), (5, .invokevirtual 73, 8, 0, 198), (8, .i2l, 9, 0, 0), (9, .lastore, 10, 0, 0), (10, .goto 11, 13, 0, 21), (13, .astore 4, 15, 0, 0), (15, .iconst 1, 16, 1, 0), (16, .ireturn, 17, 0, 0), (17, .astore 4, 19, 0, 0), (19, .iconst 2, 20, 2, 0), (20, .ireturn, 21, 0, 0), (21, .iconst 0, 22, 0, 0), (22, .ireturn, 23, 0, 0)]
def ML_block : zMI := (yL_block, cL_block, 5, (some .int), [(99999, CL_block_0)], [(0, 10, 13, 29), (0, 10, 17, 13)])
theorem DL_block_0 : CL_block_0.all (zchk cL_block) = true := by decide +kernel
theorem OL_block : zMOK ML_block := by
  intro q hq e he
  simp only [ML_block, zFt, List.mem_cons, List.not_mem_nil, or_false] at hq
  rcases hq with rfl
  · exact List.all_eq_true.mp DL_block_0 e he
theorem KL_block : zMK ML_block := ⟨OL_block, by decide +kernel, z_in (List.mem_of_getElem? (i := 1011) (by decide +kernel)), z_in (List.mem_of_getElem? (i := 0) (by decide +kernel)), by decide +kernel, by decide +kernel⟩
theorem SL_block : Jvm.Cond.static yL_block ∈ lw_tbl := z_in (List.mem_of_getElem? (i := 1010) (by decide +kernel))
def CL_shadow_0 : List zEn := [(0, .aload_n 2, 1, 0, 0), (1, .iconst 0, 2, 0, 0), (2, .aload_n 0, 3, 0, 0), (3, .iload_n 1, 4, 0, 0), (4, .invokevirtual 76, 7, 0, 201), (7, .i2l, 8, 0, 0), (8, .lastore, 9, 0, 0), (9, .goto 6, 12, 0, 15), (12, .astore_n 3, 13, 0, 0), (13, .iconst 1, 14, 1, 0), (14, .ireturn, 15, 0, 0), (15, .iconst 0, 16, 0, 0), (16, .ireturn, 17, 0, 0)]
def ML_shadow : zMI := (yL_shadow, cL_shadow, 4, (some .int), [(99999, CL_shadow_0)], [(0, 9, 12, 29)])
theorem DL_shadow_0 : CL_shadow_0.all (zchk cL_shadow) = true := by decide +kernel
theorem OL_shadow : zMOK ML_shadow := by
  intro q hq e he
  simp only [ML_shadow, zFt, List.mem_cons, List.not_mem_nil, or_false] at hq
  rcases hq with rfl
  · exact List.all_eq_true.mp DL_shadow_0 e he
theorem KL_shadow : zMK ML_shadow := ⟨OL_shadow, by decide +kernel, z_in (List.mem_of_getElem? (i := 1023) (by decide +kernel)), z_in (List.mem_of_getElem? (i := 0) (by decide +kernel)), by decide +kernel, by decide +kernel⟩
theorem SL_shadow : Jvm.Cond.static yL_shadow ∈ lw_tbl := z_in (List.mem_of_getElem? (i := 1022) (by decide +kernel))
def CL_peek_0 : List zEn := [(0, .aload_n 2, 1, 0, 0), (1, .iconst 0, 2, 0, 0), (2, .aload_n 0, 3, 0, 0), (3, .iload_n 1, 4, 0, 0), (4, .invokevirtual 79, 7, 0, 205), (7, .i2l, 8, 0, 0), (8, .lastore, 9, 0, 0), (9, .goto 6, 12, 0, 15), (12, .astore_n 3, 13, 0, 0), (13, .iconst 1, 14, 1, 0), (14, .ireturn, 15, 0, 0), (15, .iconst 0, 16, 0, 0), (16, .ireturn, 17, 0, 0)]
def ML_peek : zMI := (yL_peek, cL_peek, 4, (some .int), [(99999, CL_peek_0)], [(0, 9, 12, 29)])
theorem DL_peek_0 : CL_peek_0.all (zchk cL_peek) = true := by decide +kernel
theorem OL_peek : zMOK ML_peek := by
  intro q hq e he
  simp only [ML_peek, zFt, List.mem_cons, List.not_mem_nil, or_false] at hq
  rcases hq with rfl
  · exact List.all_eq_true.mp DL_peek_0 e he
theorem KL_peek : zMK ML_peek := ⟨OL_peek, by decide +kernel, z_in (List.mem_of_getElem? (i := 1035) (by decide +kernel)), z_in (List.mem_of_getElem? (i := 0) (by decide +kernel)), by decide +kernel, by decide +kernel⟩
theorem SL_peek : Jvm.Cond.static yL_peek ∈ lw_tbl := z_in (List.mem_of_getElem? (i := 1034) (by decide +kernel))
def CL_held_0 : List zEn := [(0, .aload_n 2, 1, 0, 0), (1, .iconst 0, 2, 0, 0), (2, .aload_n 0, 3, 0, 0), (3, .iload_n 1, 4, 0, 0), (4, .invokevirtual 82, 7, 0, 207), (7, .i2l, 8, 0, 0), (8, .lastore, 9, 0, 0), (9, .goto 6, 12, 0, 15), (12, .astore_n 3, 13, 0, 0), (13, .iconst 1, 14, 1, 0), (14, .ireturn, 15, 0, 0), (15, .iconst 0, 16, 0, 0), (16, .ireturn, 17, 0, 0)]
def ML_held : zMI := (yL_held, cL_held, 4, (some .int), [(99999, CL_held_0)], [(0, 9, 12, 29)])
theorem DL_held_0 : CL_held_0.all (zchk cL_held) = true := by decide +kernel
theorem OL_held : zMOK ML_held := by
  intro q hq e he
  simp only [ML_held, zFt, List.mem_cons, List.not_mem_nil, or_false] at hq
  rcases hq with rfl
  · exact List.all_eq_true.mp DL_held_0 e he
theorem KL_held : zMK ML_held := ⟨OL_held, by decide +kernel, z_in (List.mem_of_getElem? (i := 1042) (by decide +kernel)), z_in (List.mem_of_getElem? (i := 0) (by decide +kernel)), by decide +kernel, by decide +kernel⟩
theorem SL_held : Jvm.Cond.static yL_held ∈ lw_tbl := z_in (List.mem_of_getElem? (i := 1041) (by decide +kernel))
def CL_told_0 : List zEn := [(0, .aload_n 2, 1, 0, 0), (1, .iconst 0, 2, 0, 0), (2, .aload_n 0, 3, 0, 0), (3, .iload_n 1, 4, 0, 0), (4, .invokevirtual 85, 7, 0, 209), (7, .i2l, 8, 0, 0), (8, .lastore, 9, 0, 0), (9, .goto 6, 12, 0, 15), (12, .astore_n 3, 13, 0, 0), (13, .iconst 1, 14, 1, 0), (14, .ireturn, 15, 0, 0), (15, .iconst 0, 16, 0, 0), (16, .ireturn, 17, 0, 0)]
def ML_told : zMI := (yL_told, cL_told, 4, (some .int), [(99999, CL_told_0)], [(0, 9, 12, 13)])
theorem DL_told_0 : CL_told_0.all (zchk cL_told) = true := by decide +kernel
theorem OL_told : zMOK ML_told := by
  intro q hq e he
  simp only [ML_told, zFt, List.mem_cons, List.not_mem_nil, or_false] at hq
  rcases hq with rfl
  · exact List.all_eq_true.mp DL_told_0 e he
theorem KL_told : zMK ML_told := ⟨OL_told, by decide +kernel, z_in (List.mem_of_getElem? (i := 1049) (by decide +kernel)), z_in (List.mem_of_getElem? (i := 0) (by decide +kernel)), by decide +kernel, by decide +kernel⟩
theorem SL_told : Jvm.Cond.static yL_told ∈ lw_tbl := z_in (List.mem_of_getElem? (i := 1048) (by decide +kernel))
end
section
def CL_law_0 : List zEn := [(0, .new 8, 3, 0, 0), (3, .dup, 4, 0, 0), (4, .aload_n 0, 5, 0, 0), (5, .iconst 0, 6, 0, 0), (6, .invokestatic 88, 9, 0, 102), (9, .aload_n 0, 10, 0, 0), (10, .iconst 1, 11, 1, 0), (11, .invokestatic 88, 14, 0, 102), (14, .invokespecial 94, 17, 0, 0), (17, .astore_n 1, 18, 0, 0), (18, .new 97, 21, 0, 34), (21, .dup, 22, 0, 0), (22, .aload_n 0, 23, 0, 0), (23, .iconst 0, 24, 0, 0), (24, .invokestatic 88, 27, 0, 102), (27, .aload_n 0, 28, 0, 0), (28, .iconst 1, 29, 1, 0), (29, .invokestatic 88, 32, 0, 102), (32, .invokespecial 99, 35, 0, 212), (35, .astore_n 2, 36, 0, 0), (36, .iconst 1, 37, 1, 0), (37, .newarray .long, 39, 0, 0), (39, .astore_n 3, 40, 0, 0), (40, .iconst 2, 41, 2, 0), (41, .istore 4, 43, 0, 0), (43, .iload 4, 45, 0, 0), (45, .aload_n 0, 46, 0, 0), (46, .arraylength, 47, 0, 0), (47, .iconst 5, 48, 5, 0), (48, .isub, 49, 0, 0)]
def CL_law_1 : List zEn := [(49, .if_icmp .gt 1814, 52, 0, 1863), (52, .aload_n 0, 53, 0, 0), (53, .iload 4, 55, 0, 0), (55, .iaload, 56, 0, 0), (56, .bipush 31, 58, 31, 0), (58, .iand, 59, 0, 0), (59, .tableswitch 1798 0 23 #[109, 165, 257, 301, 404, 472, 552, 639, 719, 786, 905, 992, 1107, 1132, 1169, 1249, 1317, 1385, 1453, 1521, 1577, 1633, 1689, 1742], 168, 0, 0), (168, .aload_n 1, 169, 0, 0), (169, .aload_n 0, 170, 0, 0), (170, .iload 4, 172, 0, 0), (172, .iconst 1, 173, 1, 0), (173, .iadd, 174, 0, 0), (174, .iaload, 175, 0, 0), (175, .aload_n 3, 176, 0, 0), (176, .invokestatic 100, 179, 0, 103), (179, .istore 5, 181, 0, 0), (181, .aload_n 2, 182, 0, 0), (182, .aload_n 0, 183, 0, 0), (183, .iload 4, 185, 0, 0), (185, .iconst 1, 186, 1, 0), (186, .iadd, 187, 0, 0), (187, .iaload, 188, 0, 0), (188, .invokevirtual 103, 191, 0, 215), (191, .istore 6, 193, 0, 0), (193, .aload_n 2, 194, 0, 0), (194, .invokevirtual 104, 197, 0, 214), (197, .iload 5, 199, 0, 0), (199, .if_icmp .eq 5, 202, 0, 204), (202, .iconst 0, 203, 0, 0), (203, .ireturn, 204, 0, 0)]
def CL_law_2 : List zEn := [(204, .iload 5, 206, 0, 0), (206, .ifCond .ne 15, 209, 0, 221), (209, .aload_n 3, 210, 0, 0), (210, .iconst 0, 211, 0, 0), (211, .laload, 212, 0, 0), (212, .iload 6, 214, 0, 0), (214, .i2l, 215, 0, 0), (215, .lcmp, 216, 0, 0), (216, .ifCond .eq 5, 219, 0, 221), (219, .iconst 0, 220, 0, 0), (220, .ireturn, 221, 0, 0), (221, .goto 1636, 224, 0, 1857), (224, .aload_n 1, 225, 0, 0), (225, .aload_n 0, 226, 0, 0), (226, .iload 4, 228, 0, 0), (228, .iconst 1, 229, 1, 0), (229, .iadd, 230, 0, 0), (230, .iaload, 231, 0, 0), (231, .aload_n 0, 232, 0, 0), (232, .iload 4, 234, 0, 0), (234, .iconst 2, 235, 2, 0), (235, .iadd, 236, 0, 0), (236, .iaload, 237, 0, 0), (237, .aload_n 0, 238, 0, 0), (238, .iload 4, 240, 0, 0), (240, .iconst 3, 241, 3, 0), (241, .iadd, 242, 0, 0), (242, .iaload, 243, 0, 0), (243, .aload_n 0, 244, 0, 0), (244, .iload 4, 246, 0, 0)]
def CL_law_3 : List zEn := [(246, .iconst 4, 247, 4, 0), (247, .iadd, 248, 0, 0), (248, .iaload, 249, 0, 0), (249, .aload_n 3, 250, 0, 0), (250, .invokestatic 107, 253, 0, 111), (253, .istore 5, 255, 0, 0), (255, .aload_n 2, 256, 0, 0), (256, .aload_n 0, 257, 0, 0), (257, .iload 4, 259, 0, 0), (259, .iconst 1, 260, 1, 0), (260, .iadd, 261, 0, 0), (261, .iaload, 262, 0, 0), (262, .aload_n 0, 263, 0, 0), (263, .iload 4, 265, 0, 0), (265, .iconst 2, 266, 2, 0), (266, .iadd, 267, 0, 0), (267, .iaload, 268, 0, 0), (268, .aload_n 0, 269, 0, 0), (269, .iload 4, 271, 0, 0), (271, .iconst 3, 272, 3, 0), (272, .iadd, 273, 0, 0), (273, .iaload, 274, 0, 0), (274, .aload_n 0, 275, 0, 0), (275, .iload 4, 277, 0, 0), (277, .iconst 4, 278, 4, 0), (278, .iadd, 279, 0, 0), (279, .iaload, 280, 0, 0), (280, .invokevirtual 110, 283, 0, 218), (283, .istore 6, 285, 0, 0), (285, .aload_n 2, 286, 0, 0)]
def CL_law_4 : List zEn := [(286, .invokevirtual 104, 289, 0, 214), (289, .iload 5, 291, 0, 0), (291, .if_icmp .eq 5, 294, 0, 296), (294, .iconst 0, 295, 0, 0), (295, .ireturn, 296, 0, 0), (296, .iload 5, 298, 0, 0), (298, .ifCond .ne 15, 301, 0, 313), (301, .aload_n 3, 302, 0, 0), (302, .iconst 0, 303, 0, 0), (303, .laload, 304, 0, 0), (304, .iload 6, 306, 0, 0), (306, .i2l, 307, 0, 0), (307, .lcmp, 308, 0, 0), (308, .ifCond .eq 5, 311, 0, 313), (311, .iconst 0, 312, 0, 0), (312, .ireturn, 313, 0, 0), (313, .goto 1544, 316, 0, 1857), (316, .aload_n 1, 317, 0, 0), (317, .aload_n 3, 318, 0, 0), (318, .invokestatic 111, 321, 0, 126), (321, .istore 5, 323, 0, 0), (323, .aload_n 2, 324, 0, 0), (324, .invokevirtual 114, 327, 0, 222), (327, .istore 6, 329, 0, 0), (329, .aload_n 2, 330, 0, 0), (330, .invokevirtual 104, 333, 0, 214), (333, .iload 5, 335, 0, 0), (335, .if_icmp .eq 5, 338, 0, 340), (338, .iconst 0, 339, 0, 0), (339, .ireturn, 340, 0, 0)]
def CL_law_5 : List zEn := [(340, .iload 5, 342, 0, 0), (342, .ifCond .ne 15, 345, 0, 357), (345, .aload_n 3, 346, 0, 0), (346, .iconst 0, 347, 0, 0), (347, .laload, 348, 0, 0), (348, .iload 6, 350, 0, 0), (350, .i2l, 351, 0, 0), (351, .lcmp, 352, 0, 0), (352, .ifCond .eq 5, 355, 0, 357), (355, .iconst 0, 356, 0, 0), (356, .ireturn, 357, 0, 0), (357, .goto 1500, 360, 0, 1857), (360, .aload_n 1, 361, 0, 0), (361, .aload_n 0, 362, 0, 0), (362, .iload 4, 364, 0, 0), (364, .iconst 1, 365, 1, 0), (365, .iadd, 366, 0, 0), (366, .iaload, 367, 0, 0), (367, .aload_n 0, 368, 0, 0), (368, .iload 4, 370, 0, 0), (370, .iconst 2, 371, 2, 0), (371, .iadd, 372, 0, 0), (372, .iaload, 373, 0, 0), (373, .aload_n 0, 374, 0, 0), (374, .iload 4, 376, 0, 0), (376, .iconst 3, 377, 3, 0), (377, .iadd, 378, 0, 0), (378, .iaload, 379, 0, 0), (379, .ifCond .eq 7, 382, 0, 386), (382, .iconst 1, 383, 1, 0)]
def CL_law_6 : List zEn := [(383, .goto 4, 386, 0, 387), (386, .iconst 0, 387, 0, 0), (387, .aload_n 3, 388, 0, 0), (388, .invokestatic 115, 391, 0, 135), (391, .istore 5, 393, 0, 0), (393, .aload_n 2, 394, 0, 0), (394, .aload_n 0, 395, 0, 0), (395, .iload 4, 397, 0, 0), (397, .iconst 1, 398, 1, 0), (398, .iadd, 399, 0, 0), (399, .iaload, 400, 0, 0), (400, .aload_n 0, 401, 0, 0), (401, .iload 4, 403, 0, 0), (403, .iconst 2, 404, 2, 0), (404, .iadd, 405, 0, 0), (405, .iaload, 406, 0, 0), (406, .aload_n 0, 407, 0, 0), (407, .iload 4, 409, 0, 0), (409, .iconst 3, 410, 3, 0), (410, .iadd, 411, 0, 0), (411, .iaload, 412, 0, 0), (412, .ifCond .eq 7, 415, 0, 419), (415, .iconst 1, 416, 1, 0), (416, .goto 4, 419, 0, 420), (419, .iconst 0, 420, 0, 0), (420, .invokevirtual 118, 423, 0, 223), (423, .istore 6, 425, 0, 0), (425, .aload_n 2, 426, 0, 0), (426, .invokevirtual 104, 429, 0, 214), (429, .iload 5, 431, 0, 0)]
def CL_law_7 : List zEn := [(431, .if_icmp .eq 5, 434, 0, 436), (434, .iconst 0, 435, 0, 0), (435, .ireturn, 436, 0, 0), (436, .iload 5, 438, 0, 0), (438, .ifCond .ne 22, 441, 0, 460), (441, .aload_n 3, 442, 0, 0), (442, .iconst 0, 443, 0, 0), (443, .laload, 444, 0, 0), (444, .iload 6, 446, 0, 0), (446, .ifCond .eq 7, 449, 0, 453), (449, .lconst 1, 450, 0, 0), (450, .goto 4, 453, 0, 454), (453, .lconst 0, 454, 0, 0), (454, .lcmp, 455, 0, 0), (455, .ifCond .eq 5, 458, 0, 460), (458, .iconst 0, 459, 0, 0), (459, .ireturn, 460, 0, 0), (460, .goto 1397, 463, 0, 1857), (463, .aload_n 1, 464, 0, 0), (464, .aload_n 0, 465, 0, 0), (465, .iload 4, 467, 0, 0), (467, .iconst 1, 468, 1, 0), (468, .iadd, 469, 0, 0), (469, .iaload, 470, 0, 0), (470, .aload_n 0, 471, 0, 0), (471, .iload 4, 473, 0, 0), (473, .iconst 2, 474, 2, 0), (474, .iadd, 475, 0, 0), (475, .iaload, 476, 0, 0), (476, .aload_n 3, 477, 0, 0)]
def CL_law_8 : List zEn := [(477, .invokestatic 119, 480, 0, 143), (480, .istore 5, 482, 0, 0), (482, .aload_n 2, 483, 0, 0), (483, .aload_n 0, 484, 0, 0), (484, .iload 4, 486, 0, 0), (486, .iconst 1, 487, 1, 0), (487, .iadd, 488, 0, 0), (488, .iaload, 489, 0, 0), (489, .aload_n 0, 490, 0, 0), (490, .iload 4, 492, 0, 0), (492, .iconst 2, 493, 2, 0), (493, .iadd, 494, 0, 0), (494, .iaload, 495, 0, 0), (495, .invokevirtual 122, 498, 0, 225), (498, .istore 6, 500, 0, 0), (500, .aload_n 2, 501, 0, 0), (501, .invokevirtual 104, 504, 0, 214), (504, .iload 5, 506, 0, 0), (506, .if_icmp .eq 5, 509, 0, 511), (509, .iconst 0, 510, 0, 0), (510, .ireturn, 511, 0, 0), (511, .iload 5, 513, 0, 0), (513, .ifCond .ne 15, 516, 0, 528), (516, .aload_n 3, 517, 0, 0), (517, .iconst 0, 518, 0, 0), (518, .laload, 519, 0, 0), (519, .iload 6, 521, 0, 0), (521, .i2l, 522, 0, 0), (522, .lcmp, 523, 0, 0), (523, .ifCond .eq 5, 526, 0, 528)]
def CL_law_9 : List zEn := [(526, .iconst 0, 527, 0, 0), (527, .ireturn, 528, 0, 0), (528, .goto 1329, 531, 0, 1857), (531, .aload_n 1, 532, 0, 0), (532, .aload_n 0, 533, 0, 0), (533, .iload 4, 535, 0, 0), (535, .iconst 1, 536, 1, 0), (536, .iadd, 537, 0, 0), (537, .iaload, 538, 0, 0), (538, .aload_n 0, 539, 0, 0), (539, .iload 4, 541, 0, 0), (541, .iconst 2, 542, 2, 0), (542, .iadd, 543, 0, 0), (543, .iaload, 544, 0, 0), (544, .aload_n 0, 545, 0, 0), (545, .iload 4, 547, 0, 0), (547, .iconst 3, 548, 3, 0), (548, .iadd, 549, 0, 0), (549, .iaload, 550, 0, 0), (550, .aload_n 3, 551, 0, 0), (551, .invokestatic 123, 554, 0, 145), (554, .istore 5, 556, 0, 0), (556, .aload_n 2, 557, 0, 0), (557, .aload_n 0, 558, 0, 0), (558, .iload 4, 560, 0, 0), (560, .iconst 1, 561, 1, 0), (561, .iadd, 562, 0, 0), (562, .iaload, 563, 0, 0), (563, .aload_n 0, 564, 0, 0), (564, .iload 4, 566, 0, 0)]
def CL_law_10 : List zEn := [(566, .iconst 2, 567, 2, 0), (567, .iadd, 568, 0, 0), (568, .iaload, 569, 0, 0), (569, .aload_n 0, 570, 0, 0), (570, .iload 4, 572, 0, 0), (572, .iconst 3, 573, 3, 0), (573, .iadd, 574, 0, 0), (574, .iaload, 575, 0, 0), (575, .invokevirtual 126, 578, 0, 226), (578, .istore 6, 580, 0, 0), (580, .aload_n 2, 581, 0, 0), (581, .invokevirtual 104, 584, 0, 214), (584, .iload 5, 586, 0, 0), (586, .if_icmp .eq 5, 589, 0, 591), (589, .iconst 0, 590, 0, 0), (590, .ireturn, 591, 0, 0), (591, .iload 5, 593, 0, 0), (593, .ifCond .ne 15, 596, 0, 608), (596, .aload_n 3, 597, 0, 0), (597, .iconst 0, 598, 0, 0), (598, .laload, 599, 0, 0), (599, .iload 6, 601, 0, 0), (601, .i2l, 602, 0, 0), (602, .lcmp, 603, 0, 0), (603, .ifCond .eq 5, 606, 0, 608), (606, .iconst 0, 607, 0, 0), (607, .ireturn, 608, 0, 0), (608, .goto 1249, 611, 0, 1857), (611, .aload_n 1, 612, 0, 0), (612, .aload_n 0, 613, 0, 0)]
def CL_law_11 : List zEn := [(613, .iload 4, 615, 0, 0), (615, .iconst 1, 616, 1, 0), (616, .iadd, 617, 0, 0), (617, .iaload, 618, 0, 0), (618, .aload_n 0, 619, 0, 0), (619, .iload 4, 621, 0, 0), (621, .iconst 2, 622, 2, 0), (622, .iadd, 623, 0, 0), (623, .iaload, 624, 0, 0), (624, .aload_n 0, 625, 0, 0), (625, .iload 4, 627, 0, 0), (627, .iconst 3, 628, 3, 0), (628, .iadd, 629, 0, 0), (629, .iaload, 630, 0, 0), (630, .aload_n 3, 631, 0, 0), (631, .invokestatic 127, 634, 0, 166), (634, .istore 5, 636, 0, 0), (636, .aload_n 2, 637, 0, 0), (637, .aload_n 0, 638, 0, 0), (638, .iload 4, 640, 0, 0), (640, .iconst 1, 641, 1, 0), (641, .iadd, 642, 0, 0), (642, .iaload, 643, 0, 0), (643, .aload_n 0, 644, 0, 0), (644, .iload 4, 646, 0, 0), (646, .iconst 2, 647, 2, 0), (647, .iadd, 648, 0, 0), (648, .iaload, 649, 0, 0), (649, .aload_n 0, 650, 0, 0), (650, .iload 4, 652, 0, 0)]
def CL_law_12 : List zEn := [(652, .iconst 3, 653, 3, 0), (653, .iadd, 654, 0, 0), (654, .iaload, 655, 0, 0), (655, .invokevirtual 129, 658, 0, 232), (658, .istore 6, 660, 0, 0), (660, .aload_n 2, 661, 0, 0), (661, .invokevirtual 104, 664, 0, 214), (664, .iload 5, 666, 0, 0), (666, .if_icmp .eq 5, 669, 0, 671), (669, .iconst 0, 670, 0, 0), (670, .ireturn, 671, 0, 0), (671, .iload 5, 673, 0, 0), (673, .ifCond .ne 22, 676, 0, 695), (676, .aload_n 3, 677, 0, 0), (677, .iconst 0, 678, 0, 0), (678, .laload, 679, 0, 0), (679, .iload 6, 681, 0, 0), (681, .ifCond .eq 7, 684, 0, 688), (684, .lconst 1, 685, 0, 0), (685, .goto 4, 688, 0, 689), (688, .lconst 0, 689, 0, 0), (689, .lcmp, 690, 0, 0), (690, .ifCond .eq 5, 693, 0, 695), (693, .iconst 0, 694, 0, 0), (694, .ireturn, 695, 0, 0), (695, .goto 1162, 698, 0, 1857), (698, .aload_n 1, 699, 0, 0), (699, .aload_n 0, 700, 0, 0), (700, .iload 4, 702, 0, 0), (702, .iconst 1, 703, 1, 0)]
def CL_law_13 : List zEn := [(703, .iadd, 704, 0, 0), (704, .iaload, 705, 0, 0), (705, .aload_n 0, 706, 0, 0), (706, .iload 4, 708, 0, 0), (708, .iconst 2, 709, 2, 0), (709, .iadd, 710, 0, 0), (710, .iaload, 711, 0, 0), (711, .aload_n 0, 712, 0, 0), (712, .iload 4, 714, 0, 0), (714, .iconst 3, 715, 3, 0), (715, .iadd, 716, 0, 0), (716, .iaload, 717, 0, 0), (717, .aload_n 3, 718, 0, 0), (718, .invokestatic 130, 721, 0, 171), (721, .istore 5, 723, 0, 0), (723, .aload_n 2, 724, 0, 0), (724, .aload_n 0, 725, 0, 0), (725, .iload 4, 727, 0, 0), (727, .iconst 1, 728, 1, 0), (728, .iadd, 729, 0, 0), (729, .iaload, 730, 0, 0), (730, .aload_n 0, 731, 0, 0), (731, .iload 4, 733, 0, 0), (733, .iconst 2, 734, 2, 0), (734, .iadd, 735, 0, 0), (735, .iaload, 736, 0, 0), (736, .aload_n 0, 737, 0, 0), (737, .iload 4, 739, 0, 0), (739, .iconst 3, 740, 3, 0), (740, .iadd, 741, 0, 0)]
def CL_law_14 : List zEn := [(741, .iaload, 742, 0, 0), (742, .invokevirtual 132, 745, 0, 241), (745, .istore 6, 747, 0, 0), (747, .aload_n 2, 748, 0, 0), (748, .invokevirtual 104, 751, 0, 214), (751, .iload 5, 753, 0, 0), (753, .if_icmp .eq 5, 756, 0, 758), (756, .iconst 0, 757, 0, 0), (757, .ireturn, 758, 0, 0), (758, .iload 5, 760, 0, 0), (760, .ifCond .ne 15, 763, 0, 775), (763, .aload_n 3, 764, 0, 0), (764, .iconst 0, 765, 0, 0), (765, .laload, 766, 0, 0), (766, .iload 6, 768, 0, 0), (768, .i2l, 769, 0, 0), (769, .lcmp, 770, 0, 0), (770, .ifCond .eq 5, 773, 0, 775), (773, .iconst 0, 774, 0, 0), (774, .ireturn, 775, 0, 0), (775, .goto 1082, 778, 0, 1857), (778, .aload_n 1, 779, 0, 0), (779, .aload_n 0, 780, 0, 0), (780, .iload 4, 782, 0, 0), (782, .iconst 1, 783, 1, 0), (783, .iadd, 784, 0, 0), (784, .iaload, 785, 0, 0), (785, .aload_n 0, 786, 0, 0), (786, .iload 4, 788, 0, 0), (788, .iconst 2, 789, 2, 0)]
def CL_law_15 : List zEn := [(789, .iadd, 790, 0, 0), (790, .iaload, 791, 0, 0), (791, .aload_n 3, 792, 0, 0), (792, .invokestatic 133, 795, 0, 175), (795, .istore 5, 797, 0, 0), (797, .aload_n 2, 798, 0, 0), (798, .aload_n 0, 799, 0, 0), (799, .iload 4, 801, 0, 0), (801, .iconst 1, 802, 1, 0), (802, .iadd, 803, 0, 0), (803, .iaload, 804, 0, 0), (804, .aload_n 0, 805, 0, 0), (805, .iload 4, 807, 0, 0), (807, .iconst 2, 808, 2, 0), (808, .iadd, 809, 0, 0), (809, .iaload, 810, 0, 0), (810, .invokevirtual 135, 813, 0, 242), (813, .lstore 6, 815, 0, 0), (815, .aload_n 2, 816, 0, 0), (816, .invokevirtual 104, 819, 0, 214), (819, .iload 5, 821, 0, 0), (821, .if_icmp .eq 5, 824, 0, 826), (824, .iconst 0, 825, 0, 0), (825, .ireturn, 826, 0, 0), (826, .iload 5, 828, 0, 0), (828, .ifCond .ne 14, 831, 0, 842), (831, .aload_n 3, 832, 0, 0), (832, .iconst 0, 833, 0, 0), (833, .laload, 834, 0, 0), (834, .lload 6, 836, 0, 0)]
def CL_law_16 : List zEn := [(836, .lcmp, 837, 0, 0), (837, .ifCond .eq 5, 840, 0, 842), (840, .iconst 0, 841, 0, 0), (841, .ireturn, 842, 0, 0), (842, .goto 1015, 845, 0, 1857), (845, .aload_n 1, 846, 0, 0), (846, .aload_n 0, 847, 0, 0), (847, .iload 4, 849, 0, 0), (849, .iconst 1, 850, 1, 0), (850, .iadd, 851, 0, 0), (851, .iaload, 852, 0, 0), (852, .aload_n 0, 853, 0, 0), (853, .iload 4, 855, 0, 0), (855, .iconst 2, 856, 2, 0), (856, .iadd, 857, 0, 0), (857, .iaload, 858, 0, 0), (858, .aload_n 0, 859, 0, 0), (859, .iload 4, 861, 0, 0), (861, .iconst 3, 862, 3, 0), (862, .iadd, 863, 0, 0), (863, .iaload, 864, 0, 0), (864, .i2l, 865, 0, 0), (865, .bipush 32, 867, 32, 0), (867, .lshl, 868, 0, 0), (868, .aload_n 0, 869, 0, 0), (869, .iload 4, 871, 0, 0), (871, .iconst 4, 872, 4, 0), (872, .iadd, 873, 0, 0), (873, .iaload, 874, 0, 0), (874, .i2l, 875, 0, 0)]
def CL_law_17 : List zEn := [(875, .ldc2_w 136, 878, 0, 0), (878, .land, 879, 0, 0), (879, .lor, 880, 0, 0), (880, .aload_n 3, 881, 0, 0), (881, .invokestatic 138, 884, 0, 178), (884, .istore 5, 886, 0, 0), (886, .aload_n 2, 887, 0, 0), (887, .aload_n 0, 888, 0, 0), (888, .iload 4, 890, 0, 0), (890, .iconst 1, 891, 1, 0), (891, .iadd, 892, 0, 0), (892, .iaload, 893, 0, 0), (893, .aload_n 0, 894, 0, 0), (894, .iload 4, 896, 0, 0), (896, .iconst 2, 897, 2, 0), (897, .iadd, 898, 0, 0), (898, .iaload, 899, 0, 0), (899, .aload_n 0, 900, 0, 0), (900, .iload 4, 902, 0, 0), (902, .iconst 3, 903, 3, 0), (903, .iadd, 904, 0, 0), (904, .iaload, 905, 0, 0), (905, .i2l, 906, 0, 0), (906, .bipush 32, 908, 32, 0), (908, .lshl, 909, 0, 0), (909, .aload_n 0, 910, 0, 0), (910, .iload 4, 912, 0, 0), (912, .iconst 4, 913, 4, 0), (913, .iadd, 914, 0, 0), (914, .iaload, 915, 0, 0)]
def CL_law_18 : List zEn := [(915, .i2l, 916, 0, 0), (916, .ldc2_w 136, 919, 0, 0), (919, .land, 920, 0, 0), (920, .lor, 921, 0, 0), (921, .invokevirtual 141, 924, 0, 245), (924, .istore 6, 926, 0, 0), (926, .aload_n 2, 927, 0, 0), (927, .invokevirtual 104, 930, 0, 214), (930, .iload 5, 932, 0, 0), (932, .if_icmp .eq 5, 935, 0, 937), (935, .iconst 0, 936, 0, 0), (936, .ireturn, 937, 0, 0), (937, .iload 5, 939, 0, 0), (939, .ifCond .ne 22, 942, 0, 961), (942, .aload_n 3, 943, 0, 0), (943, .iconst 0, 944, 0, 0), (944, .laload, 945, 0, 0), (945, .iload 6, 947, 0, 0), (947, .ifCond .eq 7, 950, 0, 954), (950, .lconst 1, 951, 0, 0), (951, .goto 4, 954, 0, 955), (954, .lconst 0, 955, 0, 0), (955, .lcmp, 956, 0, 0), (956, .ifCond .eq 5, 959, 0, 961), (959, .iconst 0, 960, 0, 0), (960, .ireturn, 961, 0, 0), (961, .goto 896, 964, 0, 1857), (964, .aload_n 1, 965, 0, 0), (965, .aload_n 0, 966, 0, 0), (966, .iload 4, 968, 0, 0)]
def CL_law_19 : List zEn := [(968, .iconst 1, 969, 1, 0), (969, .iadd, 970, 0, 0), (970, .iaload, 971, 0, 0), (971, .aload_n 0, 972, 0, 0), (972, .iload 4, 974, 0, 0), (974, .iconst 2, 975, 2, 0), (975, .iadd, 976, 0, 0), (976, .iaload, 977, 0, 0), (977, .aload_n 0, 978, 0, 0), (978, .iload 4, 980, 0, 0), (980, .iconst 3, 981, 3, 0), (981, .iadd, 982, 0, 0), (982, .iaload, 983, 0, 0), (983, .aload_n 3, 984, 0, 0), (984, .invokestatic 142, 987, 0, 181), (987, .istore 5, 989, 0, 0), (989, .aload_n 2, 990, 0, 0), (990, .aload_n 0, 991, 0, 0), (991, .iload 4, 993, 0, 0), (993, .iconst 1, 994, 1, 0), (994, .iadd, 995, 0, 0), (995, .iaload, 996, 0, 0), (996, .aload_n 0, 997, 0, 0), (997, .iload 4, 999, 0, 0), (999, .iconst 2, 1000, 2, 0), (1000, .iadd, 1001, 0, 0), (1001, .iaload, 1002, 0, 0), (1002, .aload_n 0, 1003, 0, 0), (1003, .iload 4, 1005, 0, 0), (1005, .iconst 3, 1006, 3, 0)]
def CL_law_20 : List zEn := [(1006, .iadd, 1007, 0, 0), (1007, .iaload, 1008, 0, 0), (1008, .invokevirtual 144, 1011, 0, 246), (1011, .istore 6, 1013, 0, 0), (1013, .aload_n 2, 1014, 0, 0), (1014, .invokevirtual 104, 1017, 0, 214), (1017, .iload 5, 1019, 0, 0), (1019, .if_icmp .eq 5, 1022, 0, 1024), (1022, .iconst 0, 1023, 0, 0), (1023, .ireturn, 1024, 0, 0), (1024, .iload 5, 1026, 0, 0), (1026, .ifCond .ne 22, 1029, 0, 1048), (1029, .aload_n 3, 1030, 0, 0), (1030, .iconst 0, 1031, 0, 0), (1031, .laload, 1032, 0, 0), (1032, .iload 6, 1034, 0, 0), (1034, .ifCond .eq 7, 1037, 0, 1041), (1037, .lconst 1, 1038, 0, 0), (1038, .goto 4, 1041, 0, 1042), (1041, .lconst 0, 1042, 0, 0), (1042, .lcmp, 1043, 0, 0), (1043, .ifCond .eq 5, 1046, 0, 1048), (1046, .iconst 0, 1047, 0, 0), (1047, .ireturn, 1048, 0, 0), (1048, .goto 809, 1051, 0, 1857), (1051, .aload_n 1, 1052, 0, 0), (1052, .aload_n 0, 1053, 0, 0), (1053, .iload 4, 1055, 0, 0), (1055, .iconst 1, 1056, 1, 0), (1056, .iadd, 1057, 0, 0)]
def CL_law_21 : List zEn := [(1057, .iaload, 1058, 0, 0), (1058, .aload_n 0, 1059, 0, 0), (1059, .iload 4, 1061, 0, 0), (1061, .iconst 2, 1062, 2, 0), (1062, .iadd, 1063, 0, 0), (1063, .iaload, 1064, 0, 0), (1064, .aload_n 0, 1065, 0, 0), (1065, .iload 4, 1067, 0, 0), (1067, .iconst 3, 1068, 3, 0), (1068, .iadd, 1069, 0, 0), (1069, .iaload, 1070, 0, 0), (1070, .aload_n 0, 1071, 0, 0), (1071, .iload 4, 1073, 0, 0), (1073, .iconst 4, 1074, 4, 0), (1074, .iadd, 1075, 0, 0), (1075, .iaload, 1076, 0, 0), (1076, .ifCond .eq 7, 1079, 0, 1083), (1079, .iconst 1, 1080, 1, 0), (1080, .goto 4, 1083, 0, 1084), (1083, .iconst 0, 1084, 0, 0), (1084, .aload_n 3, 1085, 0, 0), (1085, .invokestatic 145, 1088, 0, 184), (1088, .istore 5, 1090, 0, 0), (1090, .aload_n 2, 1091, 0, 0), (1091, .aload_n 0, 1092, 0, 0), (1092, .iload 4, 1094, 0, 0), (1094, .iconst 1, 1095, 1, 0), (1095, .iadd, 1096, 0, 0), (1096, .iaload, 1097, 0, 0), (1097, .aload_n 0, 1098, 0, 0)]
def CL_law_22 : List zEn := [(1098, .iload 4, 1100, 0, 0), (1100, .iconst 2, 1101, 2, 0), (1101, .iadd, 1102, 0, 0), (1102, .iaload, 1103, 0, 0), (1103, .aload_n 0, 1104, 0, 0), (1104, .iload 4, 1106, 0, 0), (1106, .iconst 3, 1107, 3, 0), (1107, .iadd, 1108, 0, 0), (1108, .iaload, 1109, 0, 0), (1109, .aload_n 0, 1110, 0, 0), (1110, .iload 4, 1112, 0, 0), (1112, .iconst 4, 1113, 4, 0), (1113, .iadd, 1114, 0, 0), (1114, .iaload, 1115, 0, 0), (1115, .ifCond .eq 7, 1118, 0, 1122), (1118, .iconst 1, 1119, 1, 0), (1119, .goto 4, 1122, 0, 1123), (1122, .iconst 0, 1123, 0, 0), (1123, .invokevirtual 148, 1126, 0, 248), (1126, .istore 6, 1128, 0, 0), (1128, .aload_n 2, 1129, 0, 0), (1129, .invokevirtual 104, 1132, 0, 214), (1132, .iload 5, 1134, 0, 0), (1134, .if_icmp .eq 5, 1137, 0, 1139), (1137, .iconst 0, 1138, 0, 0), (1138, .ireturn, 1139, 0, 0), (1139, .iload 5, 1141, 0, 0), (1141, .ifCond .ne 22, 1144, 0, 1163), (1144, .aload_n 3, 1145, 0, 0), (1145, .iconst 0, 1146, 0, 0)]
def CL_law_23 : List zEn := [(1146, .laload, 1147, 0, 0), (1147, .iload 6, 1149, 0, 0), (1149, .ifCond .eq 7, 1152, 0, 1156), (1152, .lconst 1, 1153, 0, 0), (1153, .goto 4, 1156, 0, 1157), (1156, .lconst 0, 1157, 0, 0), (1157, .lcmp, 1158, 0, 0), (1158, .ifCond .eq 5, 1161, 0, 1163), (1161, .iconst 0, 1162, 0, 0), (1162, .ireturn, 1163, 0, 0), (1163, .goto 694, 1166, 0, 1857), (1166, .aload_n 1, 1167, 0, 0), (1167, .aload_n 0, 1168, 0, 0), (1168, .iload 4, 1170, 0, 0), (1170, .iconst 1, 1171, 1, 0), (1171, .iadd, 1172, 0, 0), (1172, .iaload, 1173, 0, 0), (1173, .invokevirtual 149, 1176, 0, 23), (1176, .aload_n 2, 1177, 0, 0), (1177, .aload_n 0, 1178, 0, 0), (1178, .iload 4, 1180, 0, 0), (1180, .iconst 1, 1181, 1, 0), (1181, .iadd, 1182, 0, 0), (1182, .iaload, 1183, 0, 0), (1183, .invokevirtual 152, 1186, 0, 250), (1186, .if_icmp .eq 671, 1189, 0, 1857), (1189, .iconst 0, 1190, 0, 0), (1190, .ireturn, 1191, 0, 0), (1191, .aload_n 1, 1192, 0, 0), (1192, .aload_n 0, 1193, 0, 0)]
def CL_law_24 : List zEn := [(1193, .iload 4, 1195, 0, 0), (1195, .iconst 1, 1196, 1, 0), (1196, .iadd, 1197, 0, 0), (1197, .iaload, 1198, 0, 0), (1198, .aload_n 0, 1199, 0, 0), (1199, .iload 4, 1201, 0, 0), (1201, .iconst 2, 1202, 2, 0), (1202, .iadd, 1203, 0, 0), (1203, .iaload, 1204, 0, 0), (1204, .invokevirtual 153, 1207, 0, 67), (1207, .aload_n 2, 1208, 0, 0), (1208, .aload_n 0, 1209, 0, 0), (1209, .iload 4, 1211, 0, 0), (1211, .iconst 1, 1212, 1, 0), (1212, .iadd, 1213, 0, 0), (1213, .iaload, 1214, 0, 0), (1214, .aload_n 0, 1215, 0, 0), (1215, .iload 4, 1217, 0, 0), (1217, .iconst 2, 1218, 2, 0), (1218, .iadd, 1219, 0, 0), (1219, .iaload, 1220, 0, 0), (1220, .invokevirtual 156, 1223, 0, 252), (1223, .if_icmp .eq 634, 1226, 0, 1857), (1226, .iconst 0, 1227, 0, 0), (1227, .ireturn, 1228, 0, 0), (1228, .aload_n 1, 1229, 0, 0), (1229, .aload_n 0, 1230, 0, 0), (1230, .iload 4, 1232, 0, 0), (1232, .iconst 1, 1233, 1, 0), (1233, .iadd, 1234, 0, 0)]
def CL_law_25 : List zEn := [(1234, .iaload, 1235, 0, 0), (1235, .aload_n 0, 1236, 0, 0), (1236, .iload 4, 1238, 0, 0), (1238, .iconst 2, 1239, 2, 0), (1239, .iadd, 1240, 0, 0), (1240, .iaload, 1241, 0, 0), (1241, .aload_n 0, 1242, 0, 0), (1242, .iload 4, 1244, 0, 0), (1244, .iconst 3, 1245, 3, 0), (1245, .iadd, 1246, 0, 0), (1246, .iaload, 1247, 0, 0), (1247, .aload_n 3, 1248, 0, 0), (1248, .invokestatic 157, 1251, 0, 186), (1251, .istore 5, 1253, 0, 0), (1253, .aload_n 2, 1254, 0, 0), (1254, .aload_n 0, 1255, 0, 0), (1255, .iload 4, 1257, 0, 0), (1257, .iconst 1, 1258, 1, 0), (1258, .iadd, 1259, 0, 0), (1259, .iaload, 1260, 0, 0), (1260, .aload_n 0, 1261, 0, 0), (1261, .iload 4, 1263, 0, 0), (1263, .iconst 2, 1264, 2, 0), (1264, .iadd, 1265, 0, 0), (1265, .iaload, 1266, 0, 0), (1266, .aload_n 0, 1267, 0, 0), (1267, .iload 4, 1269, 0, 0), (1269, .iconst 3, 1270, 3, 0), (1270, .iadd, 1271, 0, 0), (1271, .iaload, 1272, 0, 0)]
def CL_law_26 : List zEn := [(1272, .invokevirtual 159, 1275, 0, 253), (1275, .istore 6, 1277, 0, 0), (1277, .aload_n 2, 1278, 0, 0), (1278, .invokevirtual 104, 1281, 0, 214), (1281, .iload 5, 1283, 0, 0), (1283, .if_icmp .eq 5, 1286, 0, 1288), (1286, .iconst 0, 1287, 0, 0), (1287, .ireturn, 1288, 0, 0), (1288, .iload 5, 1290, 0, 0), (1290, .ifCond .ne 15, 1293, 0, 1305), (1293, .aload_n 3, 1294, 0, 0), (1294, .iconst 0, 1295, 0, 0), (1295, .laload, 1296, 0, 0), (1296, .iload 6, 1298, 0, 0), (1298, .i2l, 1299, 0, 0), (1299, .lcmp, 1300, 0, 0), (1300, .ifCond .eq 5, 1303, 0, 1305), (1303, .iconst 0, 1304, 0, 0), (1304, .ireturn, 1305, 0, 0), (1305, .goto 552, 1308, 0, 1857), (1308, .aload_n 1, 1309, 0, 0), (1309, .aload_n 0, 1310, 0, 0), (1310, .iload 4, 1312, 0, 0), (1312, .iconst 1, 1313, 1, 0), (1313, .iadd, 1314, 0, 0), (1314, .iaload, 1315, 0, 0), (1315, .aload_n 0, 1316, 0, 0), (1316, .iload 4, 1318, 0, 0), (1318, .iconst 2, 1319, 2, 0), (1319, .iadd, 1320, 0, 0)]
def CL_law_27 : List zEn := [(1320, .iaload, 1321, 0, 0), (1321, .aload_n 3, 1322, 0, 0), (1322, .invokestatic 160, 1325, 0, 188), (1325, .istore 5, 1327, 0, 0), (1327, .aload_n 2, 1328, 0, 0), (1328, .aload_n 0, 1329, 0, 0), (1329, .iload 4, 1331, 0, 0), (1331, .iconst 1, 1332, 1, 0), (1332, .iadd, 1333, 0, 0), (1333, .iaload, 1334, 0, 0), (1334, .aload_n 0, 1335, 0, 0), (1335, .iload 4, 1337, 0, 0), (1337, .iconst 2, 1338, 2, 0), (1338, .iadd, 1339, 0, 0), (1339, .iaload, 1340, 0, 0), (1340, .invokevirtual 162, 1343, 0, 254), (1343, .istore 6, 1345, 0, 0), (1345, .aload_n 2, 1346, 0, 0), (1346, .invokevirtual 104, 1349, 0, 214), (1349, .iload 5, 1351, 0, 0), (1351, .if_icmp .eq 5, 1354, 0, 1356), (1354, .iconst 0, 1355, 0, 0), (1355, .ireturn, 1356, 0, 0), (1356, .iload 5, 1358, 0, 0), (1358, .ifCond .ne 15, 1361, 0, 1373), (1361, .aload_n 3, 1362, 0, 0), (1362, .iconst 0, 1363, 0, 0), (1363, .laload, 1364, 0, 0), (1364, .iload 6, 1366, 0, 0), (1366, .i2l, 1367, 0, 0)]
def CL_law_28 : List zEn := [(1367, .lcmp, 1368, 0, 0), (1368, .ifCond .eq 5, 1371, 0, 1373), (1371, .iconst 0, 1372, 0, 0), (1372, .ireturn, 1373, 0, 0), (1373, .goto 484, 1376, 0, 1857), (1376, .aload_n 1, 1377, 0, 0), (1377, .aload_n 0, 1378, 0, 0), (1378, .iload 4, 1380, 0, 0), (1380, .iconst 1, 1381, 1, 0), (1381, .iadd, 1382, 0, 0), (1382, .iaload, 1383, 0, 0), (1383, .aload_n 0, 1384, 0, 0), (1384, .iload 4, 1386, 0, 0), (1386, .iconst 2, 1387, 2, 0), (1387, .iadd, 1388, 0, 0), (1388, .iaload, 1389, 0, 0), (1389, .aload_n 3, 1390, 0, 0), (1390, .invokestatic 163, 1393, 0, 192), (1393, .istore 5, 1395, 0, 0), (1395, .aload_n 2, 1396, 0, 0), (1396, .aload_n 0, 1397, 0, 0), (1397, .iload 4, 1399, 0, 0), (1399, .iconst 1, 1400, 1, 0), (1400, .iadd, 1401, 0, 0), (1401, .iaload, 1402, 0, 0), (1402, .aload_n 0, 1403, 0, 0), (1403, .iload 4, 1405, 0, 0), (1405, .iconst 2, 1406, 2, 0), (1406, .iadd, 1407, 0, 0), (1407, .iaload, 1408, 0, 0)]
def CL_law_29 : List zEn := [(1408, .invokevirtual 165, 1411, 0, 256), (1411, .istore 6, 1413, 0, 0), (1413, .aload_n 2, 1414, 0, 0), (1414, .invokevirtual 104, 1417, 0, 214), (1417, .iload 5, 1419, 0, 0), (1419, .if_icmp .eq 5, 1422, 0, 1424), (1422, .iconst 0, 1423, 0, 0), (1423, .ireturn, 1424, 0, 0), (1424, .iload 5, 1426, 0, 0), (1426, .ifCond .ne 15, 1429, 0, 1441), (1429, .aload_n 3, 1430, 0, 0), (1430, .iconst 0, 1431, 0, 0), (1431, .laload, 1432, 0, 0), (1432, .iload 6, 1434, 0, 0), (1434, .i2l, 1435, 0, 0), (1435, .lcmp, 1436, 0, 0), (1436, .ifCond .eq 5, 1439, 0, 1441), (1439, .iconst 0, 1440, 0, 0), (1440, .ireturn, 1441, 0, 0), (1441, .goto 416, 1444, 0, 1857), (1444, .aload_n 1, 1445, 0, 0), (1445, .aload_n 0, 1446, 0, 0), (1446, .iload 4, 1448, 0, 0), (1448, .iconst 1, 1449, 1, 0), (1449, .iadd, 1450, 0, 0), (1450, .iaload, 1451, 0, 0), (1451, .aload_n 0, 1452, 0, 0), (1452, .iload 4, 1454, 0, 0), (1454, .iconst 2, 1455, 2, 0), (1455, .iadd, 1456, 0, 0)]
def CL_law_30 : List zEn := [(1456, .iaload, 1457, 0, 0), (1457, .aload_n 3, 1458, 0, 0), (1458, .invokestatic 166, 1461, 0, 194), (1461, .istore 5, 1463, 0, 0), (1463, .aload_n 2, 1464, 0, 0), (1464, .aload_n 0, 1465, 0, 0), (1465, .iload 4, 1467, 0, 0), (1467, .iconst 1, 1468, 1, 0), (1468, .iadd, 1469, 0, 0), (1469, .iaload, 1470, 0, 0), (1470, .aload_n 0, 1471, 0, 0), (1471, .iload 4, 1473, 0, 0), (1473, .iconst 2, 1474, 2, 0), (1474, .iadd, 1475, 0, 0), (1475, .iaload, 1476, 0, 0), (1476, .invokevirtual 168, 1479, 0, 257), (1479, .istore 6, 1481, 0, 0), (1481, .aload_n 2, 1482, 0, 0), (1482, .invokevirtual 104, 1485, 0, 214), (1485, .iload 5, 1487, 0, 0), (1487, .if_icmp .eq 5, 1490, 0, 1492), (1490, .iconst 0, 1491, 0, 0), (1491, .ireturn, 1492, 0, 0), (1492, .iload 5, 1494, 0, 0), (1494, .ifCond .ne 15, 1497, 0, 1509), (1497, .aload_n 3, 1498, 0, 0), (1498, .iconst 0, 1499, 0, 0), (1499, .laload, 1500, 0, 0), (1500, .iload 6, 1502, 0, 0), (1502, .i2l, 1503, 0, 0)]
def CL_law_31 : List zEn := [(1503, .lcmp, 1504, 0, 0), (1504, .ifCond .eq 5, 1507, 0, 1509), (1507, .iconst 0, 1508, 0, 0), (1508, .ireturn, 1509, 0, 0), (1509, .goto 348, 1512, 0, 1857), (1512, .aload_n 1, 1513, 0, 0), (1513, .aload_n 0, 1514, 0, 0), (1514, .iload 4, 1516, 0, 0), (1516, .iconst 1, 1517, 1, 0), (1517, .iadd, 1518, 0, 0), (1518, .iaload, 1519, 0, 0), (1519, .aload_n 0, 1520, 0, 0), (1520, .iload 4, 1522, 0, 0), (1522, .iconst 2, 1523, 2, 0), (1523, .iadd, 1524, 0, 0), (1524, .iaload, 1525, 0, 0), (1525, .aload_n 3, 1526, 0, 0), (1526, .invokestatic 169, 1529, 0, 197), (1529, .istore 5, 1531, 0, 0), (1531, .aload_n 2, 1532, 0, 0), (1532, .aload_n 0, 1533, 0, 0), (1533, .iload 4, 1535, 0, 0), (1535, .iconst 1, 1536, 1, 0), (1536, .iadd, 1537, 0, 0), (1537, .iaload, 1538, 0, 0), (1538, .aload_n 0, 1539, 0, 0), (1539, .iload 4, 1541, 0, 0), (1541, .iconst 2, 1542, 2, 0), (1542, .iadd, 1543, 0, 0), (1543, .iaload, 1544, 0, 0)]
def CL_law_32 : List zEn := [(1544, .invokevirtual 171, 1547, 0, 258), (1547, .istore 6, 1549, 0, 0), (1549, .aload_n 2, 1550, 0, 0), (1550, .invokevirtual 104, 1553, 0, 214), (1553, .iload 5, 1555, 0, 0), (1555, .if_icmp .eq 5, 1558, 0, 1560), (1558, .iconst 0, 1559, 0, 0), (1559, .ireturn, 1560, 0, 0), (1560, .iload 5, 1562, 0, 0), (1562, .ifCond .ne 15, 1565, 0, 1577), (1565, .aload_n 3, 1566, 0, 0), (1566, .iconst 0, 1567, 0, 0), (1567, .laload, 1568, 0, 0), (1568, .iload 6, 1570, 0, 0), (1570, .i2l, 1571, 0, 0), (1571, .lcmp, 1572, 0, 0), (1572, .ifCond .eq 5, 1575, 0, 1577), (1575, .iconst 0, 1576, 0, 0), (1576, .ireturn, 1577, 0, 0), (1577, .goto 280, 1580, 0, 1857), (1580, .aload_n 1, 1581, 0, 0), (1581, .aload_n 0, 1582, 0, 0), (1582, .iload 4, 1584, 0, 0), (1584, .iconst 1, 1585, 1, 0), (1585, .iadd, 1586, 0, 0), (1586, .iaload, 1587, 0, 0), (1587, .aload_n 3, 1588, 0, 0), (1588, .invokestatic 172, 1591, 0, 200), (1591, .istore 5, 1593, 0, 0), (1593, .aload_n 2, 1594, 0, 0)]
def CL_law_33 : List zEn := [(1594, .aload_n 0, 1595, 0, 0), (1595, .iload 4, 1597, 0, 0), (1597, .iconst 1, 1598, 1, 0), (1598, .iadd, 1599, 0, 0), (1599, .iaload, 1600, 0, 0), (1600, .invokevirtual 174, 1603, 0, 259), (1603, .istore 6, 1605, 0, 0), (1605, .aload_n 2, 1606, 0, 0), (1606, .invokevirtual 104, 1609, 0, 214), (1609, .iload 5, 1611, 0, 0), (1611, .if_icmp .eq 5, 1614, 0, 1616), (1614, .iconst 0, 1615, 0, 0), (1615, .ireturn, 1616, 0, 0), (1616, .iload 5, 1618, 0, 0), (1618, .ifCond .ne 15, 1621, 0, 1633), (1621, .aload_n 3, 1622, 0, 0), (1622, .iconst 0, 1623, 0, 0), (1623, .laload, 1624, 0, 0), (1624, .iload 6, 1626, 0, 0), (1626, .i2l, 1627, 0, 0), (1627, .lcmp, 1628, 0, 0), (1628, .ifCond .eq 5, 1631, 0, 1633), (1631, .iconst 0, 1632, 0, 0), (1632, .ireturn, 1633, 0, 0), (1633, .goto 224, 1636, 0, 1857), (1636, .aload_n 1, 1637, 0, 0), (1637, .aload_n 0, 1638, 0, 0), (1638, .iload 4, 1640, 0, 0), (1640, .iconst 1, 1641, 1, 0), (1641, .iadd, 1642, 0, 0)]
def CL_law_34 : List zEn := [(1642, .iaload, 1643, 0, 0), (1643, .aload_n 3, 1644, 0, 0), (1644, .invokestatic 175, 1647, 0, 204), (1647, .istore 5, 1649, 0, 0), (1649, .aload_n 2, 1650, 0, 0), (1650, .aload_n 0, 1651, 0, 0), (1651, .iload 4, 1653, 0, 0), (1653, .iconst 1, 1654, 1, 0), (1654, .iadd, 1655, 0, 0), (1655, .iaload, 1656, 0, 0), (1656, .invokevirtual 177, 1659, 0, 260), (1659, .istore 6, 1661, 0, 0), (1661, .aload_n 2, 1662, 0, 0), (1662, .invokevirtual 104, 1665, 0, 214), (1665, .iload 5, 1667, 0, 0), (1667, .if_icmp .eq 5, 1670, 0, 1672), (1670, .iconst 0, 1671, 0, 0), (1671, .ireturn, 1672, 0, 0), (1672, .iload 5, 1674, 0, 0), (1674, .ifCond .ne 15, 1677, 0, 1689), (1677, .aload_n 3, 1678, 0, 0), (1678, .iconst 0, 1679, 0, 0), (1679, .laload, 1680, 0, 0), (1680, .iload 6, 1682, 0, 0), (1682, .i2l, 1683, 0, 0), (1683, .lcmp, 1684, 0, 0), (1684, .ifCond .eq 5, 1687, 0, 1689), (1687, .iconst 0, 1688, 0, 0), (1688, .ireturn, 1689, 0, 0), (1689, .goto 168, 1692, 0, 1857)]
def CL_law_35 : List zEn := [(1692, .aload_n 1, 1693, 0, 0), (1693, .aload_n 0, 1694, 0, 0), (1694, .iload 4, 1696, 0, 0), (1696, .iconst 1, 1697, 1, 0), (1697, .iadd, 1698, 0, 0), (1698, .iaload, 1699, 0, 0), (1699, .aload_n 3, 1700, 0, 0), (1700, .invokestatic 178, 1703, 0, 206), (1703, .istore 5, 1705, 0, 0), (1705, .aload_n 2, 1706, 0, 0), (1706, .aload_n 0, 1707, 0, 0), (1707, .iload 4, 1709, 0, 0), (1709, .iconst 1, 1710, 1, 0), (1710, .iadd, 1711, 0, 0), (1711, .iaload, 1712, 0, 0), (1712, .invokevirtual 180, 1715, 0, 261), (1715, .istore 6, 1717, 0, 0), (1717, .aload_n 2, 1718, 0, 0), (1718, .invokevirtual 104, 1721, 0, 214), (1721, .iload 5, 1723, 0, 0), (1723, .if_icmp .eq 5, 1726, 0, 1728), (1726, .iconst 0, 1727, 0, 0), (1727, .ireturn, 1728, 0, 0), (1728, .iload 5, 1730, 0, 0), (1730, .ifCond .ne 15, 1733, 0, 1745), (1733, .aload_n 3, 1734, 0, 0), (1734, .iconst 0, 1735, 0, 0), (1735, .laload, 1736, 0, 0), (1736, .iload 6, 1738, 0, 0), (1738, .i2l, 1739, 0, 0)]
def CL_law_36 : List zEn := [(1739, .lcmp, 1740, 0, 0), (1740, .ifCond .eq 5, 1743, 0, 1745), (1743, .iconst 0, 1744, 0, 0), (1744, .ireturn, 1745, 0, 0), (1745, .goto 112, 1748, 0, 1857), (1748, .aload_n 1, 1749, 0, 0), (1749, .aload_n 0, 1750, 0, 0), (1750, .iload 4, 1752, 0, 0), (1752, .iconst 1, 1753, 1, 0), (1753, .iadd, 1754, 0, 0), (1754, .iaload, 1755, 0, 0), (1755, .aload_n 0, 1756, 0, 0), (1756, .iload 4, 1758, 0, 0), (1758, .iconst 2, 1759, 2, 0), (1759, .iadd, 1760, 0, 0), (1760, .iaload, 1761, 0, 0), (1761, .ifCond .eq 7, 1764, 0, 1768), (1764, .iconst 1, 1765, 1, 0), (1765, .goto 4, 1768, 0, 1769), (1768, .iconst 0, 1769, 0, 0), (1769, .invokevirtual 181, 1772, 0, 83), (1772, .aload_n 2, 1773, 0, 0), (1773, .aload_n 0, 1774, 0, 0), (1774, .iload 4, 1776, 0, 0), (1776, .iconst 1, 1777, 1, 0), (1777, .iadd, 1778, 0, 0), (1778, .iaload, 1779, 0, 0), (1779, .aload_n 0, 1780, 0, 0), (1780, .iload 4, 1782, 0, 0), (1782, .iconst 2, 1783, 2, 0)]
def CL_law_37 : List zEn := [(1783, .iadd, 1784, 0, 0), (1784, .iaload, 1785, 0, 0), (1785, .ifCond .eq 7, 1788, 0, 1792), (1788, .iconst 1, 1789, 1, 0), (1789, .goto 4, 1792, 0, 1793), (1792, .iconst 0, 1793, 0, 0), (1793, .invokevirtual 185, 1796, 0, 262), (1796, .if_icmp .eq 61, 1799, 0, 1857), (1799, .iconst 0, 1800, 0, 0), (1800, .ireturn, 1801, 0, 0), (1801, .aload_n 1, 1802, 0, 0), (1802, .aload_n 0, 1803, 0, 0), (1803, .iload 4, 1805, 0, 0), (1805, .iconst 1, 1806, 1, 0), (1806, .iadd, 1807, 0, 0), (1807, .iaload, 1808, 0, 0), (1808, .aload_n 3, 1809, 0, 0), (1809, .invokestatic 186, 1812, 0, 208), (1812, .istore 5, 1814, 0, 0), (1814, .aload_n 2, 1815, 0, 0), (1815, .aload_n 0, 1816, 0, 0), (1816, .iload 4, 1818, 0, 0), (1818, .iconst 1, 1819, 1, 0), (1819, .iadd, 1820, 0, 0), (1820, .iaload, 1821, 0, 0), (1821, .invokevirtual 188, 1824, 0, 269), (1824, .istore 6, 1826, 0, 0), (1826, .aload_n 2, 1827, 0, 0), (1827, .invokevirtual 104, 1830, 0, 214), (1830, .iload 5, 1832, 0, 0)]
def CL_law_38 : List zEn := [(1832, .if_icmp .eq 5, 1835, 0, 1837), (1835, .iconst 0, 1836, 0, 0), (1836, .ireturn, 1837, 0, 0), (1837, .iload 5, 1839, 0, 0), (1839, .ifCond .ne 15, 1842, 0, 1854), (1842, .aload_n 3, 1843, 0, 0), (1843, .iconst 0, 1844, 0, 0), (1844, .laload, 1845, 0, 0), (1845, .iload 6, 1847, 0, 0), (1847, .i2l, 1848, 0, 0), (1848, .lcmp, 1849, 0, 0), (1849, .ifCond .eq 5, 1852, 0, 1854), (1852, .iconst 0, 1853, 0, 0), (1853, .ireturn, 1854, 0, 0), (1854, .goto 3, 1857, 0, 1857), (1857, .iinc 4 5, 1860, 5, 0), (1860, .goto (-1817), 1863, 0, 43), (1863, .iconst 1, 1864, 1, 0), (1864, .ireturn, 1865, 0, 0)]
def ML_law : zMI := (yL_law, cL_law, 8, (some .boolean), [(49, CL_law_0), (204, CL_law_1), (246, CL_law_2), (286, CL_law_3), (340, CL_law_4), (383, CL_law_5), (431, CL_law_6), (477, CL_law_7), (526, CL_law_8), (566, CL_law_9), (613, CL_law_10), (652, CL_law_11), (703, CL_law_12), (741, CL_law_13), (789, CL_law_14), (836, CL_law_15), (875, CL_law_16), (915, CL_law_17), (968, CL_law_18), (1006, CL_law_19), (1057, CL_law_20), (1098, CL_law_21), (1146, CL_law_22), (1193, CL_law_23), (1234, CL_law_24), (1272, CL_law_25), (1320, CL_law_26), (1367, CL_law_27), (1408, CL_law_28), (1456, CL_law_29), (1503, CL_law_30), (1544, CL_law_31), (1594, CL_law_32), (1642, CL_law_33), (1692, CL_law_34), (1739, CL_law_35), (1783, CL_law_36), (1832, CL_law_37), (99999, CL_law_38)], [])
theorem DL_law_0 : CL_law_0.all (zchk cL_law) = true := by decide +kernel
theorem DL_law_1 : CL_law_1.all (zchk cL_law) = true := by decide +kernel
theorem DL_law_2 : CL_law_2.all (zchk cL_law) = true := by decide +kernel
theorem DL_law_3 : CL_law_3.all (zchk cL_law) = true := by decide +kernel
theorem DL_law_4 : CL_law_4.all (zchk cL_law) = true := by decide +kernel
theorem DL_law_5 : CL_law_5.all (zchk cL_law) = true := by decide +kernel
theorem DL_law_6 : CL_law_6.all (zchk cL_law) = true := by decide +kernel
theorem DL_law_7 : CL_law_7.all (zchk cL_law) = true := by decide +kernel
theorem DL_law_8 : CL_law_8.all (zchk cL_law) = true := by decide +kernel
theorem DL_law_9 : CL_law_9.all (zchk cL_law) = true := by decide +kernel
theorem DL_law_10 : CL_law_10.all (zchk cL_law) = true := by decide +kernel
theorem DL_law_11 : CL_law_11.all (zchk cL_law) = true := by decide +kernel
theorem DL_law_12 : CL_law_12.all (zchk cL_law) = true := by decide +kernel
theorem DL_law_13 : CL_law_13.all (zchk cL_law) = true := by decide +kernel
theorem DL_law_14 : CL_law_14.all (zchk cL_law) = true := by decide +kernel
theorem DL_law_15 : CL_law_15.all (zchk cL_law) = true := by decide +kernel
theorem DL_law_16 : CL_law_16.all (zchk cL_law) = true := by decide +kernel
theorem DL_law_17 : CL_law_17.all (zchk cL_law) = true := by decide +kernel
theorem DL_law_18 : CL_law_18.all (zchk cL_law) = true := by decide +kernel
theorem DL_law_19 : CL_law_19.all (zchk cL_law) = true := by decide +kernel
theorem DL_law_20 : CL_law_20.all (zchk cL_law) = true := by decide +kernel
theorem DL_law_21 : CL_law_21.all (zchk cL_law) = true := by decide +kernel
theorem DL_law_22 : CL_law_22.all (zchk cL_law) = true := by decide +kernel
theorem DL_law_23 : CL_law_23.all (zchk cL_law) = true := by decide +kernel
theorem DL_law_24 : CL_law_24.all (zchk cL_law) = true := by decide +kernel
theorem DL_law_25 : CL_law_25.all (zchk cL_law) = true := by decide +kernel
theorem DL_law_26 : CL_law_26.all (zchk cL_law) = true := by decide +kernel
theorem DL_law_27 : CL_law_27.all (zchk cL_law) = true := by decide +kernel
theorem DL_law_28 : CL_law_28.all (zchk cL_law) = true := by decide +kernel
theorem DL_law_29 : CL_law_29.all (zchk cL_law) = true := by decide +kernel
theorem DL_law_30 : CL_law_30.all (zchk cL_law) = true := by decide +kernel
theorem DL_law_31 : CL_law_31.all (zchk cL_law) = true := by decide +kernel
theorem DL_law_32 : CL_law_32.all (zchk cL_law) = true := by decide +kernel
theorem DL_law_33 : CL_law_33.all (zchk cL_law) = true := by decide +kernel
theorem DL_law_34 : CL_law_34.all (zchk cL_law) = true := by decide +kernel
theorem DL_law_35 : CL_law_35.all (zchk cL_law) = true := by decide +kernel
theorem DL_law_36 : CL_law_36.all (zchk cL_law) = true := by decide +kernel
theorem DL_law_37 : CL_law_37.all (zchk cL_law) = true := by decide +kernel
theorem DL_law_38 : CL_law_38.all (zchk cL_law) = true := by decide +kernel
theorem OL_law : zMOK ML_law := by
  intro q hq e he
  simp only [ML_law, zFt, List.mem_cons, List.not_mem_nil, or_false] at hq
  rcases hq with rfl | rfl | rfl | rfl | rfl | rfl | rfl | rfl | rfl | rfl | rfl | rfl | rfl | rfl | rfl | rfl | rfl | rfl | rfl | rfl | rfl | rfl | rfl | rfl | rfl | rfl | rfl | rfl | rfl | rfl | rfl | rfl | rfl | rfl | rfl | rfl | rfl | rfl | rfl
  · exact List.all_eq_true.mp DL_law_0 e he
  · exact List.all_eq_true.mp DL_law_1 e he
  · exact List.all_eq_true.mp DL_law_2 e he
  · exact List.all_eq_true.mp DL_law_3 e he
  · exact List.all_eq_true.mp DL_law_4 e he
  · exact List.all_eq_true.mp DL_law_5 e he
  · exact List.all_eq_true.mp DL_law_6 e he
  · exact List.all_eq_true.mp DL_law_7 e he
  · exact List.all_eq_true.mp DL_law_8 e he
  · exact List.all_eq_true.mp DL_law_9 e he
  · exact List.all_eq_true.mp DL_law_10 e he
  · exact List.all_eq_true.mp DL_law_11 e he
  · exact List.all_eq_true.mp DL_law_12 e he
  · exact List.all_eq_true.mp DL_law_13 e he
  · exact List.all_eq_true.mp DL_law_14 e he
  · exact List.all_eq_true.mp DL_law_15 e he
  · exact List.all_eq_true.mp DL_law_16 e he
  · exact List.all_eq_true.mp DL_law_17 e he
  · exact List.all_eq_true.mp DL_law_18 e he
  · exact List.all_eq_true.mp DL_law_19 e he
  · exact List.all_eq_true.mp DL_law_20 e he
  · exact List.all_eq_true.mp DL_law_21 e he
  · exact List.all_eq_true.mp DL_law_22 e he
  · exact List.all_eq_true.mp DL_law_23 e he
  · exact List.all_eq_true.mp DL_law_24 e he
  · exact List.all_eq_true.mp DL_law_25 e he
  · exact List.all_eq_true.mp DL_law_26 e he
  · exact List.all_eq_true.mp DL_law_27 e he
  · exact List.all_eq_true.mp DL_law_28 e he
  · exact List.all_eq_true.mp DL_law_29 e he
  · exact List.all_eq_true.mp DL_law_30 e he
  · exact List.all_eq_true.mp DL_law_31 e he
  · exact List.all_eq_true.mp DL_law_32 e he
  · exact List.all_eq_true.mp DL_law_33 e he
  · exact List.all_eq_true.mp DL_law_34 e he
  · exact List.all_eq_true.mp DL_law_35 e he
  · exact List.all_eq_true.mp DL_law_36 e he
  · exact List.all_eq_true.mp DL_law_37 e he
  · exact List.all_eq_true.mp DL_law_38 e he
end
section
/-! numbers: Int32 by Int -/
theorem i_ext {x y : Int32} (h : x.toInt = y.toInt) : x = y := Int32.toInt_inj.mp h
theorem i_rng (x : Int32) : -2147483648 ≤ x.toInt ∧ x.toInt ≤ 2147483647 := by
  have h1 := Int32.le_toInt x
  have h2 := Int32.toInt_lt x
  constructor <;> omega
theorem i_add {x y : Int32} (h1 : -2147483648 ≤ x.toInt + y.toInt) (h2 : x.toInt + y.toInt ≤ 2147483647) : (x + y).toInt = x.toInt + y.toInt := by
  rw [Int32.toInt_add, Int.bmod_def]
  omega
theorem i_sub {x y : Int32} (h1 : -2147483648 ≤ x.toInt - y.toInt) (h2 : x.toInt - y.toInt ≤ 2147483647) : (x - y).toInt = x.toInt - y.toInt := by
  rw [Int32.toInt_sub, Int.bmod_def]
  omega
theorem i_mul {x y : Int32} (h1 : -2147483648 ≤ x.toInt * y.toInt) (h2 : x.toInt * y.toInt ≤ 2147483647) : (x * y).toInt = x.toInt * y.toInt := by
  rw [Int32.toInt_mul, Int.bmod_def]
  generalize x.toInt * y.toInt = z at *
  omega
theorem i_div {x y : Int32} (h1 : 0 ≤ x.toInt) (h2 : 0 < y.toInt) : (x / y).toInt = x.toInt / y.toInt := by
  have hx := i_rng x
  rw [Int32.toInt_div, Int.tdiv_eq_ediv_of_nonneg h1, Int.bmod_def]
  have h3 : x.toInt / y.toInt ≤ x.toInt := Int.ediv_le_self _ h1
  have h4 : 0 ≤ x.toInt / y.toInt := Int.ediv_nonneg h1 (by omega)
  generalize x.toInt / y.toInt = z at *
  omega
theorem i_rem {x y : Int32} (h1 : 0 ≤ x.toInt) (h2 : 0 < y.toInt) : (x - x / y * y).toInt = x.toInt % y.toInt := by
  have hx := i_rng x
  have e := i_div h1 h2
  have h4 : 0 ≤ x.toInt / y.toInt := Int.ediv_nonneg h1 (by omega)
  have hm : x.toInt / y.toInt * y.toInt ≤ x.toInt := Int.ediv_mul_le _ (by omega)
  have hm0 : 0 ≤ x.toInt / y.toInt * y.toInt := Int.mul_nonneg h4 (by omega)
  have e2 : (x / y * y).toInt = x.toInt / y.toInt * y.toInt := by rw [i_mul, e] <;> rw [e] <;> omega
  rw [i_sub, e2, Int.emod_def, Int.mul_comm] <;> rw [e2] <;> omega
theorem i_lt {x y : Int32} : x < y ↔ x.toInt < y.toInt := Int32.lt_iff_toInt_lt
theorem i_le {x y : Int32} : x ≤ y ↔ x.toInt ≤ y.toInt := Int32.le_iff_toInt_le
theorem i_eq {x y : Int32} : x = y ↔ x.toInt = y.toInt := Int32.toInt_inj.symm
theorem i_nI {n : Nat} (h : n < 2147483648) : (nI n).toInt = (n : Int) := nI_toInt h
/-- an Int32 of an Int in its range -/
def iI (z : Int) : Int32 := Int32.ofInt z
theorem iI_toInt {z : Int} (h1 : -2147483648 ≤ z) (h2 : z ≤ 2147483647) : (iI z).toInt = z := by
  unfold iI
  rw [Int32.toInt_ofInt, Int.bmod_def, show ((Int32.size : Nat) : Int) = 4294967296 from rfl]
  omega
def zb (p : Prop) [Decidable p] : Int32 := if p then 1 else 0
theorem zb_t {p : Prop} [Decidable p] (h : p) : zb p = 1 := if_pos h
theorem zb_f {p : Prop} [Decidable p] (h : ¬ p) : zb p = 0 := if_neg h
theorem zb_n (p : Prop) [Decidable p] : narrow .boolean (.int (zb p)) = .int (zb p) := by
  unfold zb
  split <;> rfl
end
section
section ZJ
variable {X : zCx} {h : zHp}
theorem c_max (G : zG X) (a b : Int32) : ZM X MJ9_max_7cf53 0 100 [.int a, .int b] h (fun r h' => h' = h ∧ r = .inl (some (.int (if a < b then b else a)))) := by
  refine zm_of_z G KJ9_max_7cf53 rfl rfl ?_
  refine z_go 9 rfl ?_
  refine z_br rfl rfl (fun c => ?_) (fun c => ?_)
  · refine z_go 9 rfl ?_
    exact z_iret rfl rfl ⟨rfl, by rw [if_pos c]⟩
  · refine z_go 9 rfl ?_
    exact z_iret rfl rfl ⟨rfl, by rw [if_neg c]⟩
end ZJ
end
section
theorem zac0 : Jvm.Cond.arrayClass (zTy 0) ∈ lw_tbl := z_in (List.mem_of_getElem? (i := 80) (by decide +kernel))
theorem zac1 : Jvm.Cond.arrayClass (zTy 1) ∈ lw_tbl := z_in (List.mem_of_getElem? (i := 1387) (by decide +kernel))
theorem zac2 : Jvm.Cond.arrayClass (zTy 2) ∈ lw_tbl := z_in (List.mem_of_getElem? (i := 512) (by decide +kernel))
theorem zac3 : Jvm.Cond.arrayClass (zTy 3) ∈ lw_tbl := z_in (List.mem_of_getElem? (i := 1159) (by decide +kernel))
theorem zao4 : Jvm.Cond.arrayOver (zTy 4) ∈ lw_tbl := z_in (List.mem_of_getElem? (i := 417) (by decide +kernel))
theorem zao5 : Jvm.Cond.arrayOver (zTy 5) ∈ lw_tbl := z_in (List.mem_of_getElem? (i := 148) (by decide +kernel))
theorem zcpN : Jvm.Cond.native arraycopyName ∈ lw_tbl := z_in (List.mem_of_getElem? (i := 422) (by decide +kernel))
theorem zcpS : Jvm.Cond.static arraycopyName ∈ lw_tbl := z_in (List.mem_of_getElem? (i := 421) (by decide +kernel))
theorem zcpI : Jvm.Cond.initialized "java/lang/System" ∈ lw_tbl := z_in (List.mem_of_getElem? (i := 21) (by decide +kernel))
theorem zoiI : Jvm.Cond.instanceMethod Lib.objectInit ∈ lw_tbl := z_in (List.mem_of_getElem? (i := 35) (by decide +kernel))
theorem zoiC : Jvm.Cond.code Lib.objectInit ⟨#[0xb1]⟩ 1 none ∈ lw_tbl := z_in (List.mem_of_getElem? (i := 36) (by decide +kernel))
section ZN
variable {X : zCx} {M : zMI} {f : zFr} {h : zHp} {pc : Nat} {L : zLo} {st : List Value} {Q : zRs → zHp → Prop}
theorem z_cells {k c : Nat} {e : va_E} (hl : zLim X (znew h e k)) (hn : f.2.2.1 ≤ h.2.1) (hk : f.2.2.2 ≤ h.2.2) : h.2.1 - f.2.2.1 + 1 ≤ (zRm X f).cells ∧ h.2.2 - f.2.2.2 + k ≤ (zRm X f).slots ∧ h.2.1 - f.2.2.1 + 1 = (znew h e k).2.1 - f.2.2.1 ∧ h.2.2 - f.2.2.2 + k = (znew h e k).2.2 - f.2.2.2 := by
  have l1 : h.2.1 + 1 ≤ zB X + 601024 := hl.1
  have l2 : h.2.2 + k ≤ 7293000 := hl.2
  refine ⟨?_, ?_, ?_, ?_⟩
  · show _ ≤ zB X + 601024 - f.2.2.1; omega
  · show _ ≤ 7293000 - f.2.2.2; omega
  · show _ = h.2.1 + 1 - f.2.2.1; omega
  · show _ = h.2.2 + k - f.2.2.2; omega
theorem z_newI {n : Int32} (N : Nat) {p0 nx t : Nat} {lv : Int32} (hf : zlk (zFt M) pc = some (p0, .newarray .int, nx, lv, t)) (hN : n.toInt = (N : Int)) (hb9 : N ≤ 10000) (hlim : zLim X (znew h (zI X N (fun _ => 0)) N)) (kk : Z X M f (znew h (zI X N (fun _ => 0)) N) nx L (.ref h.2.1 :: st) Q) : Z X M f h pc L (.int n :: st) Q := by
  intro p ev s m args below meth c H locs ls E hR hn hk0 hlo hl
  obtain ⟨hG, hM, hx, hb, -, -, -, hown, hW, -⟩ := id E
  obtain ⟨d, rfl, -⟩ := zdn hM hf (n := 1) rfl
  obtain ⟨c1, c2, c3, c4⟩ := z_cells (c := 0) hlim hn hk0
  have hneg : ¬ n < 0 := by rw [i_lt]; show ¬ n.toInt < 0; omega
  have hcl : n.toNatClampNeg = N := by show n.toInt.toNat = N; omega
  refine va_newaK (R := zRm X f) (atype := .int) hx hb (zw hG hW zac0 rfl) rfl d rfl hneg hcl (by show N * 4 ≤ 536870912; omega) c1 c2 hR.1 fun H1 cA e1 z1 o1 hAr hNm => ?_
  have hA9 : cA = zA X 0 := Option.some.inj (hNm.symm.trans ((zKs hG hW).2 0 _ (zTys_at X (k := 0) (by decide))).2)
  subst hA9
  rw [c3, c4]
  have r1 := hR.1
  refine kk p ev s m args below meth c H1 locs ls E (hR.new _ (show va_at (zD X) vwCl (h.2.1, zI X N (fun _ => 0)) H1 from ?_) (by omega) (fun q hq => o1 q (by omega)) hlim) (by show _ ≤ h.2.1 + 1; omega) (by show _ ≤ h.2.2 + N; omega) hlo hl
  show H1[h.2.1]? = some (vp_cell _ _)
  rw [e1]
  rfl
theorem z_newJ {n : Int32} (N : Nat) {p0 nx t : Nat} {lv : Int32} (hf : zlk (zFt M) pc = some (p0, .newarray .long, nx, lv, t)) (hN : n.toInt = (N : Int)) (hb9 : N ≤ 10000) (hlim : zLim X (znew h (zJ X N (fun _ => 0)) N)) (kk : Z X M f (znew h (zJ X N (fun _ => 0)) N) nx L (.ref h.2.1 :: st) Q) : Z X M f h pc L (.int n :: st) Q := by
  intro p ev s m args below meth c H locs ls E hR hn hk0 hlo hl
  obtain ⟨hG, hM, hx, hb, -, -, -, hown, hW, -⟩ := id E
  obtain ⟨d, rfl, -⟩ := zdn hM hf (n := 1) rfl
  obtain ⟨c1, c2, c3, c4⟩ := z_cells (c := 0) hlim hn hk0
  have hneg : ¬ n < 0 := by rw [i_lt]; show ¬ n.toInt < 0; omega
  have hcl : n.toNatClampNeg = N := by show n.toInt.toNat = N; omega
  refine va_newaK (R := zRm X f) (atype := .long) hx hb (zw hG hW zac1 rfl) rfl d rfl hneg hcl (by show N * 8 ≤ 536870912; omega) c1 c2 hR.1 fun H1 cA e1 z1 o1 hAr hNm => ?_
  have hA9 : cA = zA X 1 := Option.some.inj (hNm.symm.trans ((zKs hG hW).2 1 _ (zTys_at X (k := 1) (by decide))).2)
  subst hA9
  rw [c3, c4]
  have r1 := hR.1
  refine kk p ev s m args below meth c H1 locs ls E (hR.new _ (show va_at (zD X) vwCl (h.2.1, zJ X N (fun _ => 0)) H1 from ?_) (by omega) (fun q hq => o1 q (by omega)) hlim) (by show _ ≤ h.2.1 + 1; omega) (by show _ ≤ h.2.2 + N; omega) hlo hl
  show H1[h.2.1]? = some (vp_cell _ _)
  rw [e1]
  rfl
theorem z_newY {n : Int32} (N : Nat) {p0 nx t : Nat} {lv : Int32} (hf : zlk (zFt M) pc = some (p0, .newarray .byte, nx, lv, t)) (hN : n.toInt = (N : Int)) (hb9 : N ≤ 10000) (hlim : zLim X (znew h (zY X N (fun _ => 0)) N)) (kk : Z X M f (znew h (zY X N (fun _ => 0)) N) nx L (.ref h.2.1 :: st) Q) : Z X M f h pc L (.int n :: st) Q := by
  intro p ev s m args below meth c H locs ls E hR hn hk0 hlo hl
  obtain ⟨hG, hM, hx, hb, -, -, -, hown, hW, -⟩ := id E
  obtain ⟨d, rfl, -⟩ := zdn hM hf (n := 1) rfl
  obtain ⟨c1, c2, c3, c4⟩ := z_cells (c := 0) hlim hn hk0
  have hneg : ¬ n < 0 := by rw [i_lt]; show ¬ n.toInt < 0; omega
  have hcl : n.toNatClampNeg = N := by show n.toInt.toNat = N; omega
  refine va_newaK (R := zRm X f) (atype := .byte) hx hb (zw hG hW zac2 rfl) rfl d rfl hneg hcl (by show N * 1 ≤ 536870912; omega) c1 c2 hR.1 fun H1 cA e1 z1 o1 hAr hNm => ?_
  have hA9 : cA = zA X 2 := Option.some.inj (hNm.symm.trans ((zKs hG hW).2 2 _ (zTys_at X (k := 2) (by decide))).2)
  subst hA9
  rw [c3, c4]
  have r1 := hR.1
  refine kk p ev s m args below meth c H1 locs ls E (hR.new _ (show va_at (zD X) vwCl (h.2.1, zY X N (fun _ => 0)) H1 from ?_) (by omega) (fun q hq => o1 q (by omega)) hlim) (by show _ ≤ h.2.1 + 1; omega) (by show _ ≤ h.2.2 + N; omega) hlo hl
  show H1[h.2.1]? = some (vp_cell _ _)
  rw [e1]
  rfl
theorem z_newZ {n : Int32} (N : Nat) {p0 nx t : Nat} {lv : Int32} (hf : zlk (zFt M) pc = some (p0, .newarray .boolean, nx, lv, t)) (hN : n.toInt = (N : Int)) (hb9 : N ≤ 10000) (hlim : zLim X (znew h (zZ X N (fun _ => 0)) N)) (kk : Z X M f (znew h (zZ X N (fun _ => 0)) N) nx L (.ref h.2.1 :: st) Q) : Z X M f h pc L (.int n :: st) Q := by
  intro p ev s m args below meth c H locs ls E hR hn hk0 hlo hl
  obtain ⟨hG, hM, hx, hb, -, -, -, hown, hW, -⟩ := id E
  obtain ⟨d, rfl, -⟩ := zdn hM hf (n := 1) rfl
  obtain ⟨c1, c2, c3, c4⟩ := z_cells (c := 0) hlim hn hk0
  have hneg : ¬ n < 0 := by rw [i_lt]; show ¬ n.toInt < 0; omega
  have hcl : n.toNatClampNeg = N := by show n.toInt.toNat = N; omega
  refine va_newaK (R := zRm X f) (atype := .boolean) hx hb (zw hG hW zac3 rfl) rfl d rfl hneg hcl (by show N * 1 ≤ 536870912; omega) c1 c2 hR.1 fun H1 cA e1 z1 o1 hAr hNm => ?_
  have hA9 : cA = zA X 3 := Option.some.inj (hNm.symm.trans ((zKs hG hW).2 3 _ (zTys_at X (k := 3) (by decide))).2)
  subst hA9
  rw [c3, c4]
  have r1 := hR.1
  refine kk p ev s m args below meth c H1 locs ls E (hR.new _ (show va_at (zD X) vwCl (h.2.1, zZ X N (fun _ => 0)) H1 from ?_) (by omega) (fun q hq => o1 q (by omega)) hlim) (by show _ ≤ h.2.1 + 1; omega) (by show _ ≤ h.2.2 + N; omega) hlo hl
  show H1[h.2.1]? = some (vp_cell _ _)
  rw [e1]
  rfl
theorem z_newO {n : Int32} (N : Nat) {p0 idx nx t : Nat} {lv : Int32} (hf : zlk (zFt M) pc = some (p0, .anewarray idx, nx, lv, t)) (hr : zKL[t]? = some ((zNm M).cls, idx, "java/lang/Object")) (hN : n.toInt = (N : Int)) (hb9 : N ≤ 10000) (hlim : zLim X (znew h (zOb X N (fun _ => none)) N)) (kk : Z X M f (znew h (zOb X N (fun _ => none)) N) nx L (.ref h.2.1 :: st) Q) : Z X M f h pc L (.int n :: st) Q := by
  intro p ev s m args below meth c H locs ls E hR hn hk0 hlo hl
  obtain ⟨hG, hM, hx, hb, -, -, -, hown, hW, -⟩ := id E
  obtain ⟨d, rfl, -⟩ := zdn hM hf (n := 2) rfl
  obtain ⟨c1, c2, c3, c4⟩ := z_cells (c := 0) hlim hn hk0
  have hneg : ¬ n < 0 := by rw [i_lt]; show ¬ n.toInt < 0; omega
  have hcl : n.toNatClampNeg = N := by show n.toInt.toNat = N; omega
  subst hcl
  have hov : va_AO "java/lang/Object" s := va_AO.moved hW.alike (va_AO.of (hG.1 _ zao4))
  refine W.anew (R := zRm X f) hx hb hown (zw hG hW (zKL_in hr) rfl) (va_AO.use hov) rfl d rfl hneg (by omega) c1 c2 fun cA kA comp f1 f2 f3 f4 => ?_
  generalize hH1 : H.push ({ cls := cA, slots := Array.replicate n.toNatClampNeg .null, vm := .none } : Cell) = H1
  have z1 : H1.size = H.size + 1 := by rw [← hH1, Array.size_push]
  have e1 : H1[H.size]? = some (arrV cA n.toNatClampNeg (fun _ => .null)) := by rw [← hH1, Array.getElem?_push_size, ← arrV_new]
  have o1 : ∀ q : Nat, q < H.size → H1[q]? = H[q]? := fun q hq => by rw [← hH1, Array.getElem?_push, if_neg (Nat.ne_of_lt hq)]
  obtain ⟨kA2, comp2, k1, k2, k3, k4⟩ := ((zKs hG hW).2 4 _ (zTys_at X (k := 4) (by decide))).2
  have hA9 : cA = zA X 4 := Option.some.inj (f1.symm.trans k4)
  subst hA9
  rw [c3, c4, hR.1]
  have r1 := hR.1
  refine kk p ev s m args below meth c H1 locs ls E (hR.new _ (show va_at (zD X) vwCl (h.2.1, zOb X _ (fun _ => none)) H1 from ?_) (by omega) (fun q hq => o1 q (by omega)) hlim) (by show _ ≤ h.2.1 + 1; omega) (by show _ ≤ h.2.2 + _; omega) hlo hl
  show H1[h.2.1]? = some (vp_cell _ _)
  rw [← r1, e1]
  rfl
theorem z_newB {n : Int32} (N : Nat) {p0 idx nx t : Nat} {lv : Int32} (hf : zlk (zFt M) pc = some (p0, .anewarray idx, nx, lv, t)) (hr : zKL[t]? = some ((zNm M).cls, idx, "ShadowWard$Block")) (hN : n.toInt = (N : Int)) (hb9 : N ≤ 10000) (hlim : zLim X (znew h (zBk X N (fun _ => none)) N)) (kk : Z X M f (znew h (zBk X N (fun _ => none)) N) nx L (.ref h.2.1 :: st) Q) : Z X M f h pc L (.int n :: st) Q := by
  intro p ev s m args below meth c H locs ls E hR hn hk0 hlo hl
  obtain ⟨hG, hM, hx, hb, -, -, -, hown, hW, -⟩ := id E
  obtain ⟨d, rfl, -⟩ := zdn hM hf (n := 2) rfl
  obtain ⟨c1, c2, c3, c4⟩ := z_cells (c := 0) hlim hn hk0
  have hneg : ¬ n < 0 := by rw [i_lt]; show ¬ n.toInt < 0; omega
  have hcl : n.toNatClampNeg = N := by show n.toInt.toNat = N; omega
  subst hcl
  have hov : va_AO "ShadowWard$Block" s := va_AO.moved hW.alike (va_AO.of (hG.1 _ zao5))
  refine W.anew (R := zRm X f) hx hb hown (zw hG hW (zKL_in hr) rfl) (va_AO.use hov) rfl d rfl hneg (by omega) c1 c2 fun cA kA comp f1 f2 f3 f4 => ?_
  generalize hH1 : H.push ({ cls := cA, slots := Array.replicate n.toNatClampNeg .null, vm := .none } : Cell) = H1
  have z1 : H1.size = H.size + 1 := by rw [← hH1, Array.size_push]
  have e1 : H1[H.size]? = some (arrV cA n.toNatClampNeg (fun _ => .null)) := by rw [← hH1, Array.getElem?_push_size, ← arrV_new]
  have o1 : ∀ q : Nat, q < H.size → H1[q]? = H[q]? := fun q hq => by rw [← hH1, Array.getElem?_push, if_neg (Nat.ne_of_lt hq)]
  obtain ⟨kA2, comp2, k1, k2, k3, k4⟩ := ((zKs hG hW).2 5 _ (zTys_at X (k := 5) (by decide))).2
  have hA9 : cA = zA X 5 := Option.some.inj (f1.symm.trans k4)
  subst hA9
  rw [c3, c4, hR.1]
  have r1 := hR.1
  refine kk p ev s m args below meth c H1 locs ls E (hR.new _ (show va_at (zD X) vwCl (h.2.1, zBk X _ (fun _ => none)) H1 from ?_) (by omega) (fun q hq => o1 q (by omega)) hlim) (by show _ ≤ h.2.1 + 1; omega) (by show _ ≤ h.2.2 + _; omega) hlo hl
  show H1[h.2.1]? = some (vp_cell _ _)
  rw [← r1, e1]
  rfl
/-- a switch's road, out of the table or in it -/
theorem z_swO {dflt lo hi : Int} {offs : Array Int} {x : Int32} {p0 nx t : Nat} {lv : Int32} (tgt : Nat) (hf : zlk (zFt M) pc = some (p0, .tableswitch dflt lo hi offs, nx, lv, t)) (hx9 : x.toInt < lo ∨ hi < x.toInt) (ht : (pc : Int) + dflt = (tgt : Int)) (kk : Z X M f h tgt L st Q) : Z X M f h pc L (.int x :: st) Q := by
  intro p ev s m args below meth c H locs ls E hR hn hk0 hlo hl
  obtain ⟨hG, hM, hx, hb, -, -, -, hown, hW, -⟩ := id E
  obtain ⟨d, -, -⟩ := zdc hM hf
  exact lv_tableOut hx hb d hx9 ht (kk p ev s m args below meth c H locs ls E hR hn hk0 hlo hl)
theorem z_swI {dflt lo hi off : Int} {offs : Array Int} {x : Int32} {p0 nx t : Nat} {lv : Int32} (tgt : Nat) (z : Int) (hf : zlk (zFt M) pc = some (p0, .tableswitch dflt lo hi offs, nx, lv, t)) (hx9 : x.toInt = z) (h1 : ¬ z < lo) (h2 : ¬ hi < z) (ho : offs[(z - lo).toNat]? = some off) (ht : (pc : Int) + off = (tgt : Int)) (kk : Z X M f h tgt L st Q) : Z X M f h pc L (.int x :: st) Q := by
  intro p ev s m args below meth c H locs ls E hR hn hk0 hlo hl
  obtain ⟨hG, hM, hx, hb, -, -, -, hown, hW, -⟩ := id E
  obtain ⟨d, -, -⟩ := zdc hM hf
  subst hx9
  exact lv_tableIn hx hb d h1 h2 ho ht (kk p ev s m args below meth c H locs ls E hR hn hk0 hlo hl)
theorem z_ldc {v : Int32} {p0 idx nx t : Nat} {lv : Int32} (hf : zlk (zFt M) pc = some (p0, .ldc idx, nx, lv, t)) (hc : Jvm.Cond.constant (zNm M).cls idx v ∈ lw_tbl) (kk : Z X M f h nx L (.int v :: st) Q) : Z X M f h pc L st Q := by
  intro p ev s m args below meth c H locs ls E hR hn hk0 hlo hl
  obtain ⟨hG, hM, hx, hb, -, -, -, hown, hW, -⟩ := id E
  obtain ⟨d, rfl, -⟩ := zdn hM hf (n := 1) rfl
  exact lv_ldc hx hb hown (zw hG hW hc rfl) d (kk p ev s m args below meth c H locs ls E hR hn hk0 hlo hl)
theorem z_ldc2 {v : Int64} {p0 idx nx t : Nat} {lv : Int32} (hf : zlk (zFt M) pc = some (p0, .ldc2_w idx, nx, lv, t)) (hc : Jvm.Cond.constantLong (zNm M).cls idx v ∈ lw_tbl) (kk : Z X M f h nx L (.long v :: st) Q) : Z X M f h pc L st Q := by
  intro p ev s m args below meth c H locs ls E hR hn hk0 hlo hl
  obtain ⟨hG, hM, hx, hb, -, -, -, hown, hW, -⟩ := id E
  obtain ⟨d, rfl, -⟩ := zdn hM hf (n := 2) rfl
  exact lv_ldc2 hx hb hown (zw hG hW hc rfl) d (kk p ev s m args below meth c H locs ls E hR hn hk0 hlo hl)
/-- System.arraycopy within int rows -/
theorem z_cpI {a0 a n0 n1 : Nat} {g0 g1 : Nat → Int32} {sp dp n : Int32} {p0 idx nx t : Nat} {lv : Int32} (sp9 dp9 n9 : Nat) (h0 : h.1 a0 = some (zI X n0 g0)) (h1 : h.1 a = some (zI X n1 g1)) (hf : zlk (zFt M) pc = some (p0, .invokestatic idx, nx, lv, t)) (hr : zML[t]? = some ((zNm M).cls, idx, arraycopyName)) (es : sp.toInt = (sp9 : Int)) (ed : dp.toInt = (dp9 : Int)) (en : n.toInt = (n9 : Int)) (hs : sp9 + n9 ≤ n0) (hd : dp9 + n9 ≤ n1) (hfr : Nat.ble 1 f.1 = true) (hlc : Nat.ble 40 f.2.1 = true) (hw : Nat.ble (zcat st) 8 = true)
    (kk : Z X M f (zset h a (zI X n1 (va_cpy g0 g1 sp9 dp9 n9))) nx L st Q) : Z X M f h pc L (.int n :: .int dp :: .ref a :: .int sp :: .ref a0 :: st) Q := by
  intro p ev s m args below meth c H locs ls E hR hn hk0 hlo hl T hT X9
  obtain ⟨hG, hM, hx, hb, -, -, hml, hown, hW, -⟩ := id E
  obtain ⟨d, rfl, -⟩ := zdn hM hf (n := 2) rfl
  have hK := zKs hG hW
  have hc0 : H[a0]? = some (vp_cell (zA X 0) (n0, .inl g0)) := z_at hR h0
  have hc1 : H[a]? = some (vp_cell (zA X 0) (n1, .inl g1)) := z_at hR h1
  have ht := zTys_at X (k := 0) (by decide)
  obtain ⟨-, k0, hk9, cm0, hkk0⟩ := (hK.2 0 _ ht).1 n0 (fun j => .int (g0 j))
  have s9 : sp.toNatClampNeg = sp9 := by show sp.toInt.toNat = sp9; omega
  have d9 : dp.toNatClampNeg = dp9 := by show dp.toInt.toNat = dp9; omega
  have m9 : n.toNatClampNeg = n9 := by show n.toInt.toNat = n9; omega
  have hw9 := Nat.le_of_ble_eq_true hw
  unfold zcat at hw9
  have hlc9 : 40 ≤ f.2.1 := Nat.le_of_ble_eq_true hlc
  obtain ⟨vm', X', step⟩ := X9.arraycopy hx hown (zw hG hW (zML_in hr) rfl) (zw hG hW zcpN rfl) (zw hG hW zcpS rfl) (zw hG hW zcpI rfl) (src := a0) (dst := a) (cs := vp_cell (zA X 0) (n0, .inl g0)) (cd := vp_cell (zA X 0) (n1, .inl g1)) (srcPos := sp) (destPos := dp) (n := n) (by rw [hT]; exact hc0) (by rw [hT]; exact hc1)
    (fun _ h => by cases h) (fun _ h => by cases h) (fun h => by cases h) (fun h => by cases h) hk9 hk9 hkk0 hkk0 rfl (by rw [i_lt]; show ¬ sp.toInt < 0; omega) (by rw [i_lt]; show ¬ dp.toInt < 0; omega) (by rw [i_lt]; show ¬ n.toInt < 0; omega)
    (by show ¬ _ > ((arrV (zA X 0) n0 (fun j => .int (g0 j))).slots.size : Int); rw [arrV_size]; omega)
    (by show ¬ _ > ((arrV (zA X 0) n1 (fun j => .int (g1 j))).slots.size : Int); rw [arrV_size]; omega)
    (fun vm₁ _ i hi => by
      have e : (vp_cell (zA X 0) (n0, .inl g0)).slots.getD (sp.toNatClampNeg + i) .null = .int (g0 (sp.toNatClampNeg + i)) := by
        show (arrV (zA X 0) n0 (fun j => .int (g0 j))).slots.getD _ _ = _
        rw [Array.getD_eq_getD_getElem?, arrV_read _ _ (by omega)]
        rfl
      refine ⟨?_, ?_⟩
      · rw [e]; rfl
      · rw [e]; exact trivial)
    (g := F0 m pc ls (.int n :: .int dp :: .ref a :: .int sp :: .ref a0 :: st)) rfl (by show ls.size = _; rw [hml]; obtain ⟨-, l, q1, -⟩ := hl; exact q1.1) (rest := st) rfl (by rw [hb]; exact d) (Nat.le_of_ble_eq_true hfr) (by show 2 * 0 + _ + _ ≤ f.2.1; have hw8 : nativeFrameWords "java/lang/System" "arraycopy" 5 + 11 ≤ 32 := (by decide); omega)
  have e1 : copied (vp_cell (zA X 0) (n0, .inl g0)) (vp_cell (zA X 0) (n1, .inl g1)) sp dp n = vp_cell (zA X 0) (n1, .inl (va_cpy g0 g1 sp9 dp9 n9)) := by
    have := va_copied (sp := sp.toNatClampNeg) (dp := dp.toNatClampNeg) (n := n.toNatClampNeg) (n1 := n1) (fun z => Value.int z) (zA X 0) (zA X 0) g0 g1 (by omega : sp.toNatClampNeg + n.toNatClampNeg ≤ n0)
    rw [s9, d9, m9] at this
    unfold copied
    rw [s9, d9, m9]
    exact this
  rw [e1] at X' step
  have hl9 : a < H.size := (Array.getElem?_eq_some_iff.mp hc1).1
  have hheap : ((T.setVm vm').setCell a (vp_cell (zA X 0) (n1, .inl (va_cpy g0 g1 sp9 dp9 n9)))).heap = H.setIfInBounds a (vp_cell (zA X 0) (n1, .inl (va_cpy g0 g1 sp9 dp9 n9))) := by rw [← hT]; rfl
  obtain ⟨t9, a1, b1⟩ := kk p ev s m args below meth c _ _ ls E (hR.put (H1 := H.setIfInBounds a (vp_cell (zA X 0) (n1, .inl (va_cpy g0 g1 sp9 dp9 n9)))) (z_bs hR h1) (show (H.setIfInBounds a _)[a]? = some _ by simp [Array.getElem?_setIfInBounds, hl9]) (by simp) (fun q hq => by simp [Array.getElem?_setIfInBounds, Ne.symm hq])) hn hk0 (fun q hq => by
      rcases List.mem_append.mp hq with h9 | h9
      · exact hlo q h9
      · obtain ⟨z, -, hz⟩ := List.mem_map.mp h9
        rw [← hz]
        exact z_bs hR h1) hl _ hheap X'
  exact ⟨t9, step t9 a1, b1⟩
end ZN
end
section
/-! the empty array of ArrayList, rows of references copied, an array's class object -/
abbrev zAL : String := "java/util/ArrayList"
abbrev zDn : String := "DEFAULTCAPACITY_EMPTY_ELEMENTDATA"
abbrev zDd : String := "[Ljava/lang/Object;"
abbrev zgC : MethodName := ⟨"java/lang/Object", "getClass", "()Ljava/lang/Class;"⟩
def zDef (X : zCx) (t0 : Nat) : Prop := va_Z zAL zDn zDd (.ref t0) (fun q => zB X ≤ q) (zs X) (zs X).heap ∧ t0 < zB X ∧ ∃ cell : Cell, (zs X).heap[t0]? = some cell ∧ (zs X).isArrayOf cell (.object "java/lang/Object") ∧ cell.slots.size.toInt32 = 0
theorem zflat {X : zCx} (G : zG X) {w : Jvm.Cond} (h : w ∈ flatC (Jvm.Cond.and given_1 narrow_1)) : w.before (za X) (zs X) = true := flat_of_before _ G.2.2.2 w h
theorem zDef_ex {X : zCx} (G : zG X) : ∃ t0, zDef X t0 := by
  have h1 : (Jvm.Cond.arrayOf (.static zAL zDn zDd) (.object "java/lang/Object")).before (za X) (zs X) = true := zflat G (by decide +kernel)
  have h2 : (Jvm.Cond.eq (.length (.static zAL zDn zDd)) (.int 0)).before (za X) (zs X) = true := zflat G (by decide +kernel)
  have hl : (Jvm.Cond.laysStatic zAL zDn zDd).before (za X) (zs X) = true := G.1 _ (z_in (by decide +kernel))
  have hi : (Jvm.Cond.initialized zAL).before (za X) (zs X) = true := G.1 _ (z_in (by decide +kernel))
  obtain ⟨t, ht, cell, e1, e2, e3, e4, e5, e6, e7⟩ := va_Tof (N := 0) (f := fun _ => .null) (A := fun q => zB X ≤ q) (by decide) h1 (va_eqt h2) (fun j hj => absurd hj (by omega)) (fun a ha hb => by have : a < zB X := ha; omega)
  exact ⟨t, va_Zof hl hi ht (fun a ha hb => by have : a < zB X := ha; omega), (Array.getElem?_eq_some_iff.mp e1).1, cell, e1, e2, e5⟩
def zMi (X : zCx) (mi : Nat) : Prop := va_Mi zDd mi (zs X)
theorem zMi_ex {X : zCx} (G : zG X) : ∃ mi, zMi X mi := va_Mi.of (zflat G (w := .isRef (.mirror zDd)) (by decide +kernel))
theorem zgC_1 : Jvm.Cond.instanceMethod zgC ∈ lw_tbl := z_in (List.mem_of_getElem? (i := 394) (by decide +kernel))
theorem zgC_2 : Jvm.Cond.selects zDd zgC zgC ∈ lw_tbl := z_in (List.mem_of_getElem? (i := 1397) (by decide +kernel))
theorem zgC_3 : Jvm.Cond.declares zgC ∈ lw_tbl := z_in (List.mem_of_getElem? (i := 1398) (by decide +kernel))
theorem zgC_4 : Jvm.Cond.native zgC ∈ lw_tbl := z_in (List.mem_of_getElem? (i := 412) (by decide +kernel))
def zEl (h : zHp) (g : Nat → Option Nat) (lo n : Nat) : Prop := ∀ i, lo ≤ i → i < lo + n → ∀ y, g i = some y → ∃ ci fs, h.1 y = some (.inr (ci, fs)) ∧ zcast ci "java/lang/Object" = true
section ZQ
variable {X : zCx} {M : zMI} {f : zFr} {h : zHp} {pc : Nat} {L : zLo} {st : List Value} {Q : zRs → zHp → Prop}
theorem z_gets {t0 p0 idx nx t : Nat} {lv : Int32} (hD : zDef X t0) (hf : zlk (zFt M) pc = some (p0, .getstatic idx, nx, lv, t)) (hr : zFR[t]? = some ((zNm M).cls, idx, zAL, zDn, zDd)) (kk : Z X M f h nx L (.ref t0 :: st) Q) : Z X M f h pc L st Q := by
  intro p ev s m args below meth c H locs ls E hR hn hk0 hlo hl
  obtain ⟨hG, hM, hx, hb, -, -, -, hown, hW, -⟩ := id E
  obtain ⟨d, rfl, -⟩ := zdn hM hf (n := 2) rfl
  obtain ⟨cf, kf, fi, fd, a, cell, h1, h2, h3, h4, h5, h6, h7, h8⟩ := va_Z.moved hW.alike hD.1
  have ha : a < zB X := by
    have := h8
    omega
  exact W.gets hx hb hown (zw hG hW (zFR_in hr) rfl) h1 h2 h3 h4 (by rw [hR.2.2.1 a ha]; exact h5) (fun e => by rw [e] at h6; cases h6) h7 rfl d (kk p ev s m args below meth c H locs ls E hR hn hk0 hlo hl)
theorem z_alenD {t0 p0 nx t : Nat} {lv : Int32} (hD : zDef X t0) (hf : zlk (zFt M) pc = some (p0, .arraylength, nx, lv, t)) (kk : Z X M f h nx L (.int 0 :: st) Q) : Z X M f h pc L (.ref t0 :: st) Q := by
  intro p ev s m args below meth c H locs ls E hR hn hk0 hlo hl
  obtain ⟨hG, hM, hx, hb, -, -, -, hown, hW, -⟩ := id E
  obtain ⟨d, rfl, -⟩ := zdn hM hf (n := 0) rfl
  obtain ⟨-, ht, cell, e1, e2, e3⟩ := hD
  exact W.alen (n := 0) hx hb (by rw [hR.2.2.1 t0 ht]; exact e1) (State.isArrayOf_alike hW.alike e2) e3 rfl rfl d (kk p ev s m args below meth c H locs ls E hR hn hk0 hlo hl)
/-- getClass() of an array of objects -/
theorem z_getC {mi a n p0 idx nx t : Nat} {g : Nat → Option Nat} {lv : Int32} (hMi : zMi X mi) (hh : h.1 a = some (zOb X n g)) (hf : zlk (zFt M) pc = some (p0, .invokevirtual idx, nx, lv, t)) (hr : zML[t]? = some ((zNm M).cls, idx, zgC)) (hfr : Nat.ble 1 f.1 = true) (hlc : Nat.ble 30 f.2.1 = true) (hw : Nat.ble (zcat st) 8 = true) (kk : Z X M f h nx L (.ref mi :: st) Q) : Z X M f h pc L (.ref a :: st) Q := by
  intro p ev s m args below meth c H locs ls E hR hn hk0 hlo hl
  obtain ⟨hG, hM, hx, hb, -, -, hml, hown, hW, -⟩ := id E
  obtain ⟨d, rfl, -⟩ := zdn hM hf (n := 2) rfl
  have hcell : H[a]? = some (vp_cell (zA X 4) (n, .inr (.inr (.inr (.inr g))))) := z_at hR hh
  have hra := ((zKs hG hW).2 4 _ (zTys_at X (k := 4) (by decide))).2
  have hw9 := Nat.le_of_ble_eq_true hw
  unfold zcat at hw9
  have hlc9 : 30 ≤ f.2.1 := Nat.le_of_ble_eq_true hlc
  exact va_getC (C := zDd) hx hb (by rw [hml]; obtain ⟨-, l, q1, -⟩ := hl; exact q1.1.symm) hown (zw hG hW (zML_in hr) rfl) (va_Dc.use (va_Dc.moved hW.alike (va_Dc.of (hG.1 _ zgC_3)))) (zw hG hW zgC_2 rfl) (zw hG hW zgC_1 rfl) (zw hG hW zgC_4 rfl) (va_Mi.moved hW.alike hMi) ⟨_, hcell, rfl, va_nmO hra (by decide +kernel)⟩ (Nat.le_of_ble_eq_true hfr) (by show _ ≤ f.2.1; omega) d (kk p ev s m args below meth c H locs ls E hR hn hk0 hlo hl)
theorem z_ldcM {mi p0 idx nx t : Nat} {lv : Int32} (hMi : zMi X mi) (hf : zlk (zFt M) pc = some (p0, .ldc idx, nx, lv, t)) (hc : Jvm.Cond.classLink (zNm M).cls idx zDd ∈ lw_tbl) (kk : Z X M f h nx L (.ref mi :: st) Q) : Z X M f h pc L st Q := by
  intro p ev s m args below meth c H locs ls E hR hn hk0 hlo hl
  obtain ⟨hG, hM, hx, hb, -, -, hml, hown, hW, -⟩ := id E
  obtain ⟨d, rfl, -⟩ := zdn hM hf (n := 1) rfl
  exact va_ldcM hx hb hown (zw hG hW hc rfl) (va_Mi.moved hW.alike hMi) d (kk p ev s m args below meth c H locs ls E hR hn hk0 hlo hl)
/-- System.arraycopy within rows of objects -/
theorem z_cpO {a0 a n0 n1 : Nat} {g0 g1 : Nat → Option Nat} {sp dp n : Int32} {p0 idx nx t : Nat} {lv : Int32} (sp9 dp9 n9 : Nat) (h0 : h.1 a0 = some (zOb X n0 g0)) (h1 : h.1 a = some (zOb X n1 g1)) (hel : zEl h g0 sp9 n9) (hf : zlk (zFt M) pc = some (p0, .invokestatic idx, nx, lv, t)) (hr : zML[t]? = some ((zNm M).cls, idx, arraycopyName)) (es : sp.toInt = (sp9 : Int)) (ed : dp.toInt = (dp9 : Int)) (en : n.toInt = (n9 : Int)) (hs : sp9 + n9 ≤ n0) (hd : dp9 + n9 ≤ n1) (hfr : Nat.ble 1 f.1 = true) (hlc : Nat.ble 40 f.2.1 = true) (hw : Nat.ble (zcat st) 8 = true)
    (kk : Z X M f (zset h a (zOb X n1 (va_cpy g0 g1 sp9 dp9 n9))) nx L st Q) : Z X M f h pc L (.int n :: .int dp :: .ref a :: .int sp :: .ref a0 :: st) Q := by
  intro p ev s m args below meth c H locs ls E hR hn hk0 hlo hl T hT X9
  obtain ⟨hG, hM, hx, hb, -, -, hml, hown, hW, -⟩ := id E
  obtain ⟨d, rfl, -⟩ := zdn hM hf (n := 2) rfl
  have hK := zKs hG hW
  have hc0 : H[a0]? = some (vp_cell (zA X 4) (n0, .inr (.inr (.inr (.inr g0))))) := z_at hR h0
  have hc1 : H[a]? = some (vp_cell (zA X 4) (n1, .inr (.inr (.inr (.inr g1))))) := z_at hR h1
  have ht := zTys_at X (k := 4) (by decide)
  obtain ⟨-, k0, hk9, cm0, hkk0⟩ := (hK.2 4 _ ht).1 n0 (fun j => va_rf (g0 j))
  have s9 : sp.toNatClampNeg = sp9 := by show sp.toInt.toNat = sp9; omega
  have d9 : dp.toNatClampNeg = dp9 := by show dp.toInt.toNat = dp9; omega
  have m9 : n.toNatClampNeg = n9 := by show n.toInt.toNat = n9; omega
  have hw9 := Nat.le_of_ble_eq_true hw
  unfold zcat at hw9
  have hlc9 : 40 ≤ f.2.1 := Nat.le_of_ble_eq_true hlc
  obtain ⟨vm', X', step⟩ := X9.arraycopy hx hown (zw hG hW (zML_in hr) rfl) (zw hG hW zcpN rfl) (zw hG hW zcpS rfl) (zw hG hW zcpI rfl) (src := a0) (dst := a) (cs := vp_cell (zA X 4) (n0, .inr (.inr (.inr (.inr g0))))) (cd := vp_cell (zA X 4) (n1, .inr (.inr (.inr (.inr g1))))) (srcPos := sp) (destPos := dp) (n := n) (by rw [hT]; exact hc0) (by rw [hT]; exact hc1)
    (fun _ h => by cases h) (fun _ h => by cases h) (fun h => by cases h) (fun h => by cases h) hk9 hk9 hkk0 hkk0 rfl (by rw [i_lt]; show ¬ sp.toInt < 0; omega) (by rw [i_lt]; show ¬ dp.toInt < 0; omega) (by rw [i_lt]; show ¬ n.toInt < 0; omega)
    (by show ¬ _ > ((arrV (zA X 4) n0 (fun j => va_rf (g0 j))).slots.size : Int); rw [arrV_size]; omega)
    (by show ¬ _ > ((arrV (zA X 4) n1 (fun j => va_rf (g1 j))).slots.size : Int); rw [arrV_size]; omega)
    (fun vm₁ hal i hi => by
      have e : (vp_cell (zA X 4) (n0, .inr (.inr (.inr (.inr g0))))).slots.getD (sp.toNatClampNeg + i) .null = va_rf (g0 (sp.toNatClampNeg + i)) := by
        show (arrV (zA X 4) n0 (fun j => va_rf (g0 j))).slots.getD _ _ = _
        rw [Array.getD_eq_getD_getElem?, arrV_read _ _ (by omega)]
        rfl
      rw [e]
      cases hy : g0 (sp.toNatClampNeg + i) with
      | none => exact ⟨rfl, trivial⟩
      | some y =>
        obtain ⟨ci, fs, hyc, hcs⟩ := hel (sp.toNatClampNeg + i) (by omega) (by omega) y hy
        obtain ⟨r', hr', cellV, g9, g2, g3, -⟩ := z_at hR hyc
        obtain ⟨hcls, c3, c4, w1, w2, w3⟩ := zcast_ok (args := args) hG hW hcs
        have hc3 : c3 = (zD X).1 ci := Option.some.inj (w1.symm.trans hcls.1)
        subst hc3
        obtain ⟨kA, comp, r1, r2, r3, -⟩ := (hK.2 4 _ ht).2
        cases hk9.symm.trans r1
        cases hkk0.symm.trans r2
        have hc4 : c4 = _ := Option.some.inj (w2.symm.trans r3)
        subst hc4
        obtain ⟨kC, hkC, -⟩ := hcls.2
        obtain ⟨kE, hkE⟩ := Vm.classAt_of_findClass r3
        obtain ⟨kC', hkC', -⟩ := hal.2.2 _ _ hkC
        obtain ⟨kE', hkE', -⟩ := hal.2.2 _ _ hkE
        refine ⟨rfl, cellV, (show T.heap[y]? = some cellV by rw [hT]; exact g9), (fun q h => by rw [g3] at h; cases h), ⟨kC', by rw [g2]; exact hkC'⟩, ?_, ?_⟩
        · exact ⟨kE', hkE'⟩
        · show vm₁.assignable _ _ = true
          rw [hal.assignable, g2]
          exact w3)
    (g := F0 m pc ls (.int n :: .int dp :: .ref a :: .int sp :: .ref a0 :: st)) rfl (by show ls.size = _; rw [hml]; obtain ⟨-, l, q1, -⟩ := hl; exact q1.1) (rest := st) rfl (by rw [hb]; exact d) (Nat.le_of_ble_eq_true hfr) (by show 2 * 0 + _ + _ ≤ f.2.1; have hw8 : nativeFrameWords "java/lang/System" "arraycopy" 5 + 11 ≤ 32 := (by decide); omega)
  have e1 : copied (vp_cell (zA X 4) (n0, .inr (.inr (.inr (.inr g0))))) (vp_cell (zA X 4) (n1, .inr (.inr (.inr (.inr g1))))) sp dp n = vp_cell (zA X 4) (n1, .inr (.inr (.inr (.inr (va_cpy g0 g1 sp9 dp9 n9))))) := by
    have := va_copied (sp := sp.toNatClampNeg) (dp := dp.toNatClampNeg) (n := n.toNatClampNeg) (n1 := n1) (fun z => va_rf z) (zA X 4) (zA X 4) g0 g1 (by omega : sp.toNatClampNeg + n.toNatClampNeg ≤ n0)
    rw [s9, d9, m9] at this
    unfold copied
    rw [s9, d9, m9]
    exact this
  rw [e1] at X' step
  have hl9 : a < H.size := (Array.getElem?_eq_some_iff.mp hc1).1
  have hheap : ((T.setVm vm').setCell a (vp_cell (zA X 4) (n1, .inr (.inr (.inr (.inr (va_cpy g0 g1 sp9 dp9 n9))))))).heap = H.setIfInBounds a (vp_cell (zA X 4) (n1, .inr (.inr (.inr (.inr (va_cpy g0 g1 sp9 dp9 n9)))))) := by rw [← hT]; rfl
  obtain ⟨t9, a1, b1⟩ := kk p ev s m args below meth c _ _ ls E (hR.put (H1 := H.setIfInBounds a (vp_cell (zA X 4) (n1, .inr (.inr (.inr (.inr (va_cpy g0 g1 sp9 dp9 n9))))))) (z_bs hR h1) (show (H.setIfInBounds a _)[a]? = some _ by simp [Array.getElem?_setIfInBounds, hl9]) (by simp) (fun q hq => by simp [Array.getElem?_setIfInBounds, Ne.symm hq])) hn hk0 (fun q hq => by
      rcases List.mem_append.mp hq with h9 | h9
      · exact hlo q h9
      · obtain ⟨z, -, hz⟩ := List.mem_map.mp h9
        rw [← hz]
        exact z_bs hR h1) hl _ hheap X'
  exact ⟨t9, step t9 a1, b1⟩
end ZQ
end
section
/-! exceptions: thrown anew, caught -/
abbrev zRE : List String := ["java/lang/RuntimeException", "java/lang/Exception"]
def zgd : Jvm.Cond → Bool
  | .declares _ => true
  | .castable _ _ => true
  | w => goodWord w
theorem zw2 {X : zCx} (G : zG X) {s : State} {args : Array Value} (hW : (zs X).WarmedH s.vm) {w : Jvm.Cond} (hm : w ∈ lw_tbl) (hg : zgd w = true) : w.before args s = true := by
  have h0 := G.1 w hm
  cases w with
  | declares x =>
    have h1 : (Jvm.Cond.declares x).before (za X) ((zs X).setVm s.vm) = true := by rw [Cond.declares_setVm hW.alike]; exact h0
    exact va_tabs (u := (zs X).setVm s.vm) rfl rfl h1
  | castable a b =>
    have h1 : (Jvm.Cond.castable a b).before (za X) ((zs X).setVm s.vm) = true := by rw [Cond.castable_setVm hW.alike]; exact h0
    exact va_tabs (u := (zs X).setVm s.vm) rfl rfl h1
  | _ => exact zw G hW hm hg
/-- the words of 'throw new E(text)' -/
def zthr (own : String) (ic : Nat) (E : String) : Bool := (vx_atS own ic E zRE).all (fun w => decide (w ∈ lw_tbl) && zgd w && vx_ot w)
theorem zthr_ok {own E : String} {ic : Nat} (h : zthr own ic E = true) {w : Jvm.Cond} (hw : w ∈ vx_atS own ic E zRE) : w ∈ lw_tbl ∧ zgd w = true ∧ vx_ot w = true := by
  have := List.all_eq_true.mp h w hw
  simp only [Bool.and_eq_true, decide_eq_true_eq] at this
  exact ⟨this.1.1, this.1.2, this.2⟩
theorem zst_str {X : zCx} (G : zG X) {own tx : String} {k : Nat} (h1 : Jvm.Cond.stringRef own k tx ∈ lw_tbl) (h2 : Jvm.Cond.exactly (.string own k) "java/lang/String" ∈ flatC (Jvm.Cond.and given_1 narrow_1)) : ∃ sa, vk_R own k tx sa (zs X) := by
  obtain ⟨a, c, cell, kk, e1, -⟩ := Cond.exactly_spec (zflat G h2)
  exact ⟨a, vk_R.of (A := za X) (G.1 _ h1) e1⟩
theorem zst_U {X : zCx} (G : zG X) : vx_Zq Bundle.tN "UNASSIGNED_STACK" Bundle.steD (fun q => zB X ≤ q) (zs X) (zs X).heap := vx_Zqof (G.1 _ (z_in (by decide +kernel))) (G.1 _ (z_in (by decide +kernel))) (zflat G (by decide +kernel)) (fun a ha hb => by have : a < zB X := ha; omega)
theorem zst_N {X : zCx} (G : zG X) : vx_Zq Bundle.tN "SUPPRESSED_SENTINEL" Bundle.listD (fun q => zB X ≤ q) (zs X) (zs X).heap := vx_Zqof (G.1 _ (z_in (by decide +kernel))) (G.1 _ (z_in (by decide +kernel))) (zflat G (by decide +kernel)) (fun a ha hb => by have : a < zB X := ha; omega)
section ZT9
variable {X : zCx} {M : zMI} {f : zFr} {h : zHp} {pc : Nat} {L : zLo} {Q : zRs → zHp → Prop}
set_option maxHeartbeats 1000000 in
theorem z_throw {E text : String} {ik is ic q0 n0 t0 q3 n3 t3 q4 n4 t4 q6 n6 t6 q9 n9 t9 sa : Nat} {v0 v3 v4 v6 v9 : Int32} (h0 : zlk (zFt M) pc = some (q0, .new ik, n0, v0, t0)) (h3 : zlk (zFt M) (pc + 3) = some (q3, .dup, n3, v3, t3)) (h4 : zlk (zFt M) (pc + 4) = some (q4, .ldc is, n4, v4, t4)) (h6 : zlk (zFt M) (pc + 6) = some (q6, .invokespecial ic, n6, v6, t6)) (h9 : zlk (zFt M) (pc + 9) = some (q9, .athrow, n9, v9, t9))
    (hhh : zHh M = []) (hkl : zKL[t0]? = some ((zNm M).cls, ik, E)) (hst : vk_R (zNm M).cls is text sa (zs X)) (hat : zthr (zNm M).cls ic E = true) (hini : Jvm.Cond.initialized E ∈ lw_tbl) (hfit : Bundle.fit E = true) (hfr : Nat.ble 6 f.1 = true) (hlc : Nat.ble 100 f.2.1 = true) (hlim : zLim X (zadd h 1 6)) (hq : Q (.inr E) (zadd h 1 6)) : Z X M f h pc L [] Q := by
  intro p ev s m args below meth c H locs ls E9 hR hn hk0 hlo hl T hT X9
  obtain ⟨hG, hM, hx, hb, -, hlk, hml, hown, hW, hsz0, -, htab⟩ := id E9
  obtain ⟨d0, -, -⟩ := zdn hM h0 (n := 2) rfl
  obtain ⟨d3, -, -⟩ := zdn hM h3 (n := 0) rfl
  obtain ⟨d4, -, -⟩ := zdn hM h4 (n := 1) rfl
  obtain ⟨d6, -, -⟩ := zdn hM h6 (n := 2) rfl
  obtain ⟨d9, -, -⟩ := zdn hM h9 (n := 0) rfl
  rw [hhh] at htab
  have htb0 : c.exceptionTable.toList = [] := List.map_eq_nil_iff.mp htab
  have l1 : h.2.1 + 1 ≤ zB X + 601024 := hlim.1
  have l2 : h.2.2 + 6 ≤ 7293000 := hlim.2
  have hf6 : 6 ≤ f.1 := Nat.le_of_ble_eq_true hfr
  have hl1 : 100 ≤ f.2.1 := Nat.le_of_ble_eq_true hlc
  have htr : ev.platform.stackTraces = false := (show ev.platform.stackTraces = (zl X).stackTraces by rw [X9.admits.platform]).trans hG.2.2.1
  have hls : ls.size = c.maxLocals := by rw [hml]; obtain ⟨-, l, q1, -⟩ := hl; exact q1.1
  have Y := vx_rebase X9 (R' := { frames := f.1, locals := f.2.1, cells := 1, slots := 6 }) (Nat.le_refl _) (Nat.le_refl _) (by show _ ≤ zB X + 601024 - f.2.2.1; dsimp only; omega) (by show _ ≤ 7293000 - f.2.2.2; dsimp only; omega)
  obtain ⟨s', hA⟩ : ∃ z, z = (T.setVm s.vm).setFrames (.invoking m args :: below) := ⟨_, rfl⟩
  rw [← hA] at Y
  have hvm : s'.vm = s.vm := by rw [hA]; rfl
  have hhp : s'.heap = H := by rw [hA]; exact hT
  have hWs' : (zs X).WarmedH s'.vm := by rw [hvm]; exact hW
  have hW0 : s.WarmedH s'.vm := by rw [hvm]; exact State.WarmedH.refl s
  have hkp : ∀ a : Nat, a < (zs X).heap.size → ¬ (fun q => zB X ≤ q) a → s'.heap[a]? = (zs X).heap[a]? := fun a ha _ => by rw [hhp]; exact hR.2.2.1 a ha
  have hU' := vx_Zq.moved hWs'.alike ((zst_U hG).kept hkp)
  have hN' := vx_Zq.moved hWs'.alike ((zst_N hG).kept hkp)
  have hh : ∀ w ∈ Bundle.ownAtoms (zNm M).cls ic E zRE, w.before args s' = true := vx_own (fun w hw => zw2 hG hWs' (zthr_ok hat hw).1 (zthr_ok hat hw).2.1) (vx_isRefq hU'.1) (vx_isRefq hN'.1) hU'.2.word hN'.2.word
  have hown' : s'.vm.findClass (zNm M).cls = some m.cls := by rw [hvm]; exact hown
  have hins : (Jvm.Cond.instantiable E 6).before args s' = true := hh _ (by simp [Bundle.ownAtoms])
  obtain ⟨vm₁, cX, kX, hfX, hkX, -, -, X₁, st1⟩ := Y.newCold hx (own := (zNm M).cls) (C := E) (index := ik) (n := 6) hown' (zw hG hWs' (zKL_in hkl) rfl) hins (zw hG hWs' hini rfl)
    (g := F0 m pc ls []) rfl (by rw [hb]; exact d0) (Nat.le_refl _) (Nat.le_refl _)
  generalize hT1 : (T.setVm vm₁).pushCell { cls := cX, slots := kX.instanceTypes.map defaultValue, vm := .none } = T1 at X₁ st1
  have hcat : (Value.ref T.heap.size).category = 1 := rfl
  have hcellA : T1.heap[T.heap.size]? = some (freshCell cX kX) := by rw [← hT1]; exact State.heap_pushCell_size _ _
  have d3' : decode c.code (pc + 3) = .ok (.dup, 1) := by rw [hb]; exact d3
  have d4' : decode c.code (pc + 4) = .ok (.ldc is, 2) := by rw [hb]; exact d4
  have hstr' : vk_R (zNm M).cls is text sa s' := vk_R.warm hWs' hst
  obtain ⟨U, hsteps, hrun, hend, hWU, hsame, ce, hce, hO⟩ := X₁.ctorThrowS hx htr (own := (zNm M).cls) (cls := E) (names := zRE) (ic := ic) hown' hfit (by decide +kernel) hh (fun x hx => nomatch hx) hfX hkX hcellA (by rw [hhp, hT]; exact Nat.le_refl _) (msg := .ref sa) rfl
    (g := { method := m, pc := pc + 6, locals := ls, stack := .ref sa :: .ref T.heap.size :: .ref T.heap.size :: [], locked := none }) rfl hls rfl rfl (rest := []) rfl
    (by rw [hb]; exact d6) (by rw [hb]; exact d9) (fun x hx => by rw [htb0] at hx; cases hx) (by show 2 + 3 < f.1; omega) (by show _ ≤ f.2.1; simp only [List.map_cons, List.map_nil, List.sum_cons, List.sum_nil, hcat, List.length_cons, List.length_nil]; simp [Value.category]; omega) hlk
  obtain ⟨f1, f2⟩ := vx_frame hsame
  rw [hhp] at f1 f2
  have hWs : s.WarmedH U.vm := State.WarmedH.trans hW0 hWU
  have hcl : (zs X).vm.findClass E = some ce.cls := by
    have h9 := hO.cls
    rw [hWs'.alike.findClass] at h9
    exact h9
  have hsz : U.heap.size = H.size + 1 := by
    have a1 : U.heap.size ≤ s'.heap.size + 1 := hsame.2.2.1
    rw [hhp] at a1
    have a2 := (Array.getElem?_eq_some_iff.mp hce).1
    rw [hT] at a2
    omega
  have hall : s.sameButNew ({ U with vm := s.vm } : State) locs ((zadd h 1 6).2.1 - f.2.2.1) ((zadd h 1 6).2.2 - f.2.2.2) := by
    subst hA
    obtain ⟨e1, e2⟩ := hsame
    rw [State.setFrames_setFrames] at e1
    have h2 : (T.setVm s.vm).sameButNew ({ U with vm := s.vm } : State) [] (0 + 1) (0 + 6) := ⟨e1, e2⟩
    have h3 := X9.same.trans h2
    rw [List.append_nil] at h3
    exact h3.mono (by show _ ≤ h.2.1 + 1 - f.2.2.1; omega) (by show _ ≤ h.2.2 + 6 - f.2.2.2; omega)
  refine ⟨U, ?_, .threw T.heap.size, hrun, hend, .inr E, zadd h 1 6, ⟨T.heap.size, ce, rfl, hce, hO.vm, hcl⟩, hq, hR.more 1 6 hsz (fun q hq9 => f2 q hq9 (fun z hz => nomatch hz)) hlim, by show _ ≤ h.2.1 + 1; omega, by show _ ≤ h.2.2 + 6; omega, hWs, locs, hall, hlo⟩
  refine st1 _ ?_
  show Steps p.tables ev below (T1.setTop { method := m, pc := pc + 3, locals := ls, stack := .ref T.heap.size :: [], locked := none }) _
  jvm_step X₁.here [X₁.here.top, hx, d3', Value.category]
  exact X₁.ldcString hx (own := (zNm M).cls) (text := text) (index := is) (a := sa) hown' hstr'.1 hstr'.2
    (g := { method := m, pc := pc + 4, locals := ls, stack := .ref T.heap.size :: .ref T.heap.size :: [], locked := none }) rfl d4' _ hsteps
end ZT9
theorem zsr_81 : Jvm.Cond.stringRef "ShadowWard" 81 "there is no frame" ∈ lw_tbl := z_in (List.mem_of_getElem? (i := 759) (by decide +kernel))
theorem zsx_81 : Jvm.Cond.exactly (.string "ShadowWard" 81) "java/lang/String" ∈ flatC (Jvm.Cond.and given_1 narrow_1) := by decide +kernel
theorem zsr_242 : Jvm.Cond.stringRef "ShadowWard" 242 "a number is not as it may be" ∈ lw_tbl := z_in (List.mem_of_getElem? (i := 486) (by decide +kernel))
theorem zsx_242 : Jvm.Cond.exactly (.string "ShadowWard" 242) "java/lang/String" ∈ flatC (Jvm.Cond.and given_1 narrow_1) := by decide +kernel
theorem zsr_247 : Jvm.Cond.stringRef "ShadowWard" 247 "there is no such thing" ∈ lw_tbl := z_in (List.mem_of_getElem? (i := 803) (by decide +kernel))
theorem zsx_247 : Jvm.Cond.exactly (.string "ShadowWard" 247) "java/lang/String" ∈ flatC (Jvm.Cond.and given_1 narrow_1) := by decide +kernel
theorem zth_A : zthr "ShadowWard" 244 "java/lang/IllegalArgumentException" = true := by decide +kernel
theorem zti_A : Jvm.Cond.initialized "java/lang/IllegalArgumentException" ∈ lw_tbl := z_in (List.mem_of_getElem? (i := 15) (by decide +kernel))
theorem zth_I : zthr "ShadowWard" 249 "java/lang/IndexOutOfBoundsException" = true := by decide +kernel
theorem zti_I : Jvm.Cond.initialized "java/lang/IndexOutOfBoundsException" ∈ lw_tbl := z_in (List.mem_of_getElem? (i := 25) (by decide +kernel))
theorem zth_S : zthr "ShadowWard" 83 "java/lang/IllegalStateException" = true := by decide +kernel
theorem zti_S : Jvm.Cond.initialized "java/lang/IllegalStateException" ∈ lw_tbl := z_in (List.mem_of_getElem? (i := 24) (by decide +kernel))
end
section
/-! a handler's search that may link its class on the way; inherited methods; the script -/
theorem zfh_yes {Q : Handler → Pre} {E : CtlPost} {e : Env} {d : Bool} {acts : List Action} {s : State} {f : JFrame} {a : Addr} {x : ExceptionTableEntry} {t : List ExceptionTableEntry} {c : ClassId} {cell : Cell} (hx : covers x f.pc = true) (h0 : x.catchType ≠ 0)
    (hl : s.vm.ClassLinks e.platform f.method.cls x.catchType c) (hcell : s.heap[a]? = some cell) (hobj : ∀ k, cell.vm ≠ .statics k) (hk : ∃ k, s.vm.classes[cell.cls]? = some k) (hc : ∃ k, s.vm.classes[c]? = some k) (hyes : s.vm.assignable cell.cls c = true) :
    wp (findHandler.go f a (x :: t)) Q E e d acts s ↔ Q (.found x.handlerPc) d acts (s.setVm (s.vm.noted f.method.cls x.catchType (.cls c))) := by
  simp only [covers] at hx
  obtain ⟨ha, ht⟩ := (resolveClass_links e.toSetting hl).op (op := VmOp.resolveClass f.method.cls x.catchType) rfl
  have hal : s.vm.Alike (s.vm.noted f.method.cls x.catchType (.cls c)) := (Vm.Alike.refl s.vm).noted _ _ _
  obtain ⟨k1, hk1⟩ := hk
  obtain ⟨k2, hk2⟩ := hc
  obtain ⟨k1', hk1', -⟩ := hal.2.2 _ _ hk1
  obtain ⟨k2', hk2', -⟩ := hal.2.2 _ _ hk2
  have hy' : (s.vm.noted f.method.cls x.catchType (.cls c)).assignable cell.cls c = true := by rw [hal.assignable]; exact hyes
  simp [findHandler.go, hx, h0, ha, ht, hcell, hobj, hk1', hk2', hy', VmOp.dirties, VmOp.acts]
theorem zfh_no {Q : Handler → Pre} {E : CtlPost} {e : Env} {d : Bool} {acts : List Action} {s : State} {f : JFrame} {a : Addr} {x : ExceptionTableEntry} {t : List ExceptionTableEntry} {c : ClassId} {cell : Cell} (hx : covers x f.pc = true) (h0 : x.catchType ≠ 0)
    (hl : s.vm.ClassLinks e.platform f.method.cls x.catchType c) (hcell : s.heap[a]? = some cell) (hobj : ∀ k, cell.vm ≠ .statics k) (hk : ∃ k, s.vm.classes[cell.cls]? = some k) (hc : ∃ k, s.vm.classes[c]? = some k) (hno : s.vm.assignable cell.cls c = false) :
    wp (findHandler.go f a (x :: t)) Q E e d acts s ↔ wp (findHandler.go f a t) Q E e d acts (s.setVm (s.vm.noted f.method.cls x.catchType (.cls c))) := by
  simp only [covers] at hx
  obtain ⟨ha, ht⟩ := (resolveClass_links e.toSetting hl).op (op := VmOp.resolveClass f.method.cls x.catchType) rfl
  have hal : s.vm.Alike (s.vm.noted f.method.cls x.catchType (.cls c)) := (Vm.Alike.refl s.vm).noted _ _ _
  obtain ⟨k1, hk1⟩ := hk
  obtain ⟨k2, hk2⟩ := hc
  obtain ⟨k1', hk1', -⟩ := hal.2.2 _ _ hk1
  obtain ⟨k2', hk2', -⟩ := hal.2.2 _ _ hk2
  have hy' : (s.vm.noted f.method.cls x.catchType (.cls c)).assignable cell.cls c = false := by rw [hal.assignable]; exact hno
  simp [findHandler.go, hx, h0, ha, ht, hcell, hobj, hk1', hk2', hy', VmOp.dirties, VmOp.acts]
theorem z_caught {tb : Tables} {e : Env} {s target : State} {g : JFrame} {c : Code} {below : List Frame} {a : Addr} (h : At s g.method c below) {pc : Nat} {vm' : Vm}
    (hfind : ∀ (Q : Handler → Pre) (E : CtlPost) (d : Bool) (acts : List Action), wp (findHandler g a) Q E e d acts ((s.setTop g).pushFrame (.throwing a)) ↔ Q (.found pc) d acts (((s.setTop g).pushFrame (.throwing a)).setVm vm'))
    (hrest : Steps tb e below ((s.setVm vm').setTop { g with pc := pc, stack := [.ref a] }) target) : Steps tb e below ((s.setTop g).pushFrame (.throwing a)) target := by
  obtain ⟨hgo, hw⟩ := h.throwing a
  refine Steps.head hgo hw ?_
  have hst : (stepThrowing e ((s.setTop g).pushFrame (.throwing a)) a (.java g :: s.frames.tail)).Is ((((s.setTop g).pushFrame (.throwing a)).setVm vm').setFrames (.java { g with pc := pc, stack := [.ref a] } :: s.frames.tail)) [] := by
    simp only [stepThrowing, searchFrame, vmDo]
    generalize hr : Sem.go _ e false [] ((s.setTop g).pushFrame (.throwing a)) = res
    obtain ⟨as, rfl, ha⟩ := Sem.eq_ok_of hr (a := Handler.found pc) (s' := ((s.setTop g).pushFrame (.throwing a)).setVm vm') (acts' := []) (by simp [hfind _ _ _ _])
    exact ⟨rfl, ha⟩
  rw [stepThread_throwing (frames_entered h.top _), hst.1]
  obtain ⟨g₀, hg⟩ := Option.isSome_iff_exists.mp h.top
  obtain ⟨r, hr⟩ := State.topJava?_eq_some.mp hg
  have hr2 : (s.setVm vm').frames = .java g₀ :: r := hr
  rw [State.pushFrame_setVm, State.pushFrame, State.setFrames_setFrames]
  rw [State.setTop_of_frames _ hr2] at hrest
  have e9 : (s.setTop g).setVm vm' = (s.setVm vm').setFrames (.java g :: r) := by rw [State.setTop_of_frames _ hr]; rfl
  rw [e9, State.setFrames_setFrames, hr]
  exact hrest
def znC (X : zCx) (a b : String) : Prop := va_Nc a b (zs X)
theorem znC_of {X : zCx} (G : zG X) {a b : String} (ha : (a, a) ∈ zCT) (hb : (b, b) ∈ zCT) (h : Jvm.Cond.not (.castable a b) ∈ flatC (Jvm.Cond.and given_1 narrow_1)) : znC X a b := by
  have h1 := zflat G h
  obtain ⟨c, -, h2, -⟩ := zct G (State.WarmedH.refl _) ha
  obtain ⟨c', -, h3, -⟩ := zct G (State.WarmedH.refl _) hb
  have hv := Cond.holds_not_iff.mp h1
  simp only [Cond.value, h2, h3] at hv
  exact ⟨c, c', h2, h3, Option.some.inj hv⟩
section ZX9
variable {X : zCx} {M : zMI} {f : zFr} {h : zHp} {pc : Nat} {L : zLo} {Q : zRs → zHp → Prop}
/-- caught by the method's one row, or by its first -/
theorem zt_first {E nm : String} {a1 b1 c1 d1 : Nat} {r : List (Nat × Nat × Nat × Nat)} (hhh : zHh M = (a1, b1, c1, d1) :: r) (hcv : (Nat.ble a1 pc && Nat.blt pc b1) = true) (h0 : d1 ≠ 0) (hlk : Jvm.Cond.classLink (zNm M).cls d1 nm ∈ lw_tbl) (hct : (E, nm) ∈ zCT) (kk : ∀ q : Nat, Z X M f h c1 L [.ref q] Q) : ZT X M f h pc L E Q := by
  intro p ev s m args below meth c H locs ls st q ce E9 hR hn hk hlo hl hc hv hcl T hT X9
  obtain ⟨hG, hM, hx, hb, hr, hlock, hml, hown, hW, -, -, htab⟩ := id E9
  rw [hhh] at htab
  obtain ⟨x, rest, hsp, hx1, hx2⟩ := List.map_eq_cons_iff.mp htab
  simp only [Prod.mk.injEq] at hx1
  obtain ⟨e1, e2, e3, e4⟩ := hx1
  have hpl : ev.platform.magicAccessors = ({} : Platform).magicAccessors := by rw [X9.admits.platform]
  obtain ⟨c9, t9, w1, w2, w3⟩ := zct hG hW hct
  have hce : s.vm.findClass E = some ce.cls := by rw [hW.alike.findClass]; exact hcl
  have e9 : c9 = ce.cls := Option.some.inj (w1.symm.trans hce)
  subst e9
  obtain ⟨c5, hc5, hcl5⟩ := Cond.classLink_spec hown (zw hG (args := args) hW hlk rfl) ev.platform hpl
  have e8 : t9 = c5 := Option.some.inj (w2.symm.trans hc5)
  subst e8
  simp only [Bool.and_eq_true] at hcv
  have hcov : covers x pc = true := by
    simp only [covers, Bool.and_eq_true, decide_eq_true_eq]
    rw [e1, e2]
    exact ⟨Nat.le_of_ble_eq_true hcv.1, Nat.le_of_ble_eq_true hcv.2⟩
  have hWT := X9.warmed
  have hclT := hWT.classLinks hcl5
  obtain ⟨dk, _, _, kt, hd, _, _, _, _, hkt, _, hopn⟩ := hcl5.here
  obtain ⟨k9, hk9⟩ := Vm.classAt_of_findClass hce
  obtain ⟨k9', hk9', -⟩ := hWT.alike.2.2 _ _ hk9
  obtain ⟨kt', hkt', -⟩ := hWT.alike.2.2 _ _ hkt
  have hW2 : s.WarmedH (T.vm.noted m.cls x.catchType (.cls t9)) := by rw [e4]; exact hWT.noted hd hopn (State.rightAt_cls hcl5)
  obtain ⟨t, a1', b1'⟩ := kk q p ev s m args below meth c H locs ls E9 hR hn hk hlo hl (T.setVm (T.vm.noted m.cls x.catchType (.cls t9))) hT (X9.noted hW2)
  refine ⟨t, z_caught (c := c) (pc := x.handlerPc) (vm' := T.vm.noted m.cls x.catchType (.cls t9)) X9.here (fun Q9 E8 d acts => ?_) (by rw [e3]; exact a1'), b1'⟩
  rw [W.findHandler_eq (meth := meth) (code := c) X9.method' X9.code, hsp]
  exact zfh_yes (f := F0 m pc ls st) hcov (by rw [e4]; exact h0) (by rw [e4]; exact hclT) (show T.heap[q]? = some ce by rw [hT]; exact hc) (fun k hk9 => by rw [hv] at hk9; cases hk9) ⟨k9', hk9'⟩ ⟨kt', hkt'⟩ (by show T.vm.assignable _ _ = true; rw [hWT.alike.assignable]; exact w3)
/-- passed by the first row, caught by the second -/
theorem zt_second {E nm nm1 : String} {a1 b1 c1 d1 a2 b2 c2 d2 : Nat} {r : List (Nat × Nat × Nat × Nat)} (hhh : zHh M = (a1, b1, c1, d1) :: (a2, b2, c2, d2) :: r) (hcv1 : (Nat.ble a1 pc && Nat.blt pc b1) = true) (hcv : (Nat.ble a2 pc && Nat.blt pc b2) = true) (h01 : d1 ≠ 0) (h0 : d2 ≠ 0) (hlk1 : Jvm.Cond.classLink (zNm M).cls d1 nm1 ∈ lw_tbl) (hno : znC X E nm1) (hlk : Jvm.Cond.classLink (zNm M).cls d2 nm ∈ lw_tbl) (hct : (E, nm) ∈ zCT) (kk : ∀ q : Nat, Z X M f h c2 L [.ref q] Q) : ZT X M f h pc L E Q := by
  intro p ev s m args below meth c H locs ls st q ce E9 hR hn hk hlo hl hc hv hcl T hT X9
  obtain ⟨hG, hM, hx, hb, hr, hlock, hml, hown, hW, -, -, htab⟩ := id E9
  rw [hhh] at htab
  obtain ⟨x1, rest1, hsp1, hx1, hx2⟩ := List.map_eq_cons_iff.mp htab
  obtain ⟨x, rest, hsp, hx3, hx4⟩ := List.map_eq_cons_iff.mp hx2
  simp only [Prod.mk.injEq] at hx1 hx3
  obtain ⟨y1, y2, y3, y4⟩ := hx1
  obtain ⟨e1, e2, e3, e4⟩ := hx3
  have hpl : ev.platform.magicAccessors = ({} : Platform).magicAccessors := by rw [X9.admits.platform]
  obtain ⟨c9, t9, w1, w2, w3⟩ := zct hG hW hct
  have hce : s.vm.findClass E = some ce.cls := by rw [hW.alike.findClass]; exact hcl
  have e9 : c9 = ce.cls := Option.some.inj (w1.symm.trans hce)
  subst e9
  obtain ⟨c5, hc5, hcl5⟩ := Cond.classLink_spec hown (zw hG (args := args) hW hlk rfl) ev.platform hpl
  have e8 : t9 = c5 := Option.some.inj (w2.symm.trans hc5)
  subst e8
  obtain ⟨c6, hc6, hcl6⟩ := Cond.classLink_spec hown (zw hG (args := args) hW hlk1 rfl) ev.platform hpl
  obtain ⟨u1, u2, n1, n2, n3⟩ := hno
  have z1 : u1 = ce.cls := Option.some.inj (n1.symm.trans hcl)
  have z2 : u2 = c6 := by rw [hW.alike.findClass] at hc6; exact Option.some.inj (n2.symm.trans hc6)
  subst z1 z2
  simp only [Bool.and_eq_true] at hcv hcv1
  have hcov : covers x pc = true := by
    simp only [covers, Bool.and_eq_true, decide_eq_true_eq]
    rw [e1, e2]
    exact ⟨Nat.le_of_ble_eq_true hcv.1, Nat.le_of_ble_eq_true hcv.2⟩
  have hcov1 : covers x1 pc = true := by
    simp only [covers, Bool.and_eq_true, decide_eq_true_eq]
    rw [y1, y2]
    exact ⟨Nat.le_of_ble_eq_true hcv1.1, Nat.le_of_ble_eq_true hcv1.2⟩
  have hWT := X9.warmed
  obtain ⟨dk6, _, _, kt6, hd6, _, _, _, _, hkt6, _, hopn6⟩ := hcl6.here
  obtain ⟨dk, _, _, kt, hd, _, _, _, _, hkt, _, hopn⟩ := hcl5.here
  have hW1 : s.WarmedH (T.vm.noted m.cls x1.catchType (.cls u2)) := by rw [y4]; exact hWT.noted hd6 hopn6 (State.rightAt_cls hcl6)
  obtain ⟨k9, hk9⟩ := Vm.classAt_of_findClass hce
  obtain ⟨k9', hk9', -⟩ := hWT.alike.2.2 _ _ hk9
  obtain ⟨kt6', hkt6', -⟩ := hWT.alike.2.2 _ _ hkt6
  obtain ⟨k8', hk8', -⟩ := hW1.alike.2.2 _ _ hk9
  obtain ⟨kt', hkt', -⟩ := hW1.alike.2.2 _ _ hkt
  have hW2 : s.WarmedH ((T.vm.noted m.cls x1.catchType (.cls u2)).noted m.cls x.catchType (.cls t9)) := by rw [e4]; exact hW1.noted hd hopn (State.rightAt_cls hcl5)
  obtain ⟨t, a1', b1'⟩ := kk q p ev s m args below meth c H locs ls E9 hR hn hk hlo hl (T.setVm ((T.vm.noted m.cls x1.catchType (.cls u2)).noted m.cls x.catchType (.cls t9))) hT (X9.noted hW2)
  refine ⟨t, z_caught (c := c) (pc := x.handlerPc) (vm' := (T.vm.noted m.cls x1.catchType (.cls u2)).noted m.cls x.catchType (.cls t9)) X9.here (fun Q9 E8 d acts => ?_) (by rw [e3]; exact a1'), b1'⟩
  rw [W.findHandler_eq (meth := meth) (code := c) X9.method' X9.code, hsp1]
  refine (zfh_no (f := F0 m pc ls st) (s := (T.setTop (F0 m pc ls st)).pushFrame (.throwing q)) hcov1 (by rw [y4]; exact h01) (by rw [y4]; exact hWT.classLinks hcl6) (show T.heap[q]? = some ce by rw [hT]; exact hc) (fun k hk9 => by rw [hv] at hk9; cases hk9) ⟨k9', hk9'⟩ ⟨kt6', hkt6'⟩ (by show T.vm.assignable _ _ = false; rw [hWT.alike.assignable, hW.alike.assignable]; exact n3)).trans ?_
  rw [hsp]
  exact zfh_yes (f := F0 m pc ls st) (s := ((T.setTop (F0 m pc ls st)).pushFrame (.throwing q)).setVm (T.vm.noted m.cls x1.catchType (.cls u2))) hcov (by rw [e4]; exact h0) (by rw [e4]; exact hW1.classLinks hcl5) (show T.heap[q]? = some ce by rw [hT]; exact hc) (fun k hk9 => by rw [hv] at hk9; cases hk9) ⟨k8', hk8'⟩ ⟨kt', hkt'⟩ (by show (T.vm.noted m.cls x1.catchType (.cls u2)).assignable _ _ = true; rw [hW1.alike.assignable]; exact w3)
/-- invokevirtual of an inherited method: named x, it is M' of the class owner -/
theorem z_invU {M' : zMI} {x : MethodName} {fr lo b ci : Nat} {fs As st stk : List Value} {Q' : zRs → zHp → Prop} {p0 idx nx t : Nat} {lv : Int32} (hM : ZM X M' fr lo (.ref b :: As) h Q') (hK : zMK M') (hob : h.1 b = some (.inr (ci, fs))) (hci : ci < 13) (hin : Jvm.Cond.instanceMethod (zNm M') ∈ lw_tbl) (hse : Jvm.Cond.selects (zcl ci).1 x (zNm M') ∈ lw_tbl) (hsm : Jvm.Cond.sameMethod x.cls (zNm M').cls x.name x.desc ∈ lw_tbl) (hnm : (zNm M') = ⟨(zNm M').cls, x.name, x.desc⟩) (hf : zlk (zFt M) pc = some (p0, .invokevirtual idx, nx, lv, t)) (hr : zML[t]? = some ((zNm M).cls, idx, x)) (hln : (parseMethodDescriptor x.desc).map (fun d => d.parameters.length) = some As.length) (hfr : Nat.ble (fr + 1) f.1 = true) (hlc : Nat.ble (8 + (zNL M' + 11) + lo) f.2.1 = true) (hstk : zap (.ref b :: As) st = stk) (hw : Nat.ble (zcat st) 8 = true)
    (kk : ∀ v h', Q' (.inl v) h' → Z X M f h' nx L (v.toList ++ st) Q) (kx : ∀ E h', Q' (.inr E) h' → ZT X M f h' pc L E Q) : Z X M f h pc L stk Q := by
  intro p ev s m args below meth c H locs ls E hR hn hk0 hlo hl T hT X0
  obtain ⟨hG, hMo, hx, hb, -, -, hml, hown, hW, -⟩ := id E
  obtain ⟨d, rfl, -⟩ := zdn hMo hf (n := 2) rfl
  obtain ⟨mk, methM, hnamed, hmethM, hstM, habM⟩ := Cond.instanceMethod_spec (zw hG (args := args) hW hin rfl)
  obtain ⟨mk', methM', cM, hnamed', hmethM', -, -, -, -, -, -, hsigM⟩ := zcode_spec (zw hG (args := args) hW hK.2.2.1 (zcode_good M'))
  cases hnamed.symm.trans hnamed'
  cases hmethM.symm.trans hmethM'
  obtain ⟨c2, r2, m2, q1, q2, q3, q4, kP, hkP, hkPi⟩ := Cond.selects_spec (zw hG (args := args) hW hse rfl)
  obtain ⟨cn, ck, r1, hcn, hck, hni, hff, hn1⟩ := Cond.sameMethod_found (zw hG (args := args) hW hsm rfl)
  have hnx : s.methodNamed? ⟨(zNm M').cls, x.name, x.desc⟩ = some mk := by rw [← hnm]; exact hnamed
  cases hnx.symm.trans hn1
  obtain ⟨r', hr', cellB, g1, g2, g3, -⟩ := z_at hR hob
  have hcls : s.vm.findClass (zcl ci).1 = some cellB.cls := by
    rw [g2]
    exact ((zKs hG hW).1 ci _ (zcl_ok ci hci).1).2.1
  cases hcls.symm.trans q1
  cases hff.symm.trans q2
  cases hnamed.symm.trans q3
  have hselP : selectMethod ev.platform s.vm cellB.cls mk = .method mk := by rw [Launch.admits_selectMethod X0.admits]; exact q4
  have hdx : (zNm M').desc = x.desc := by rw [hnm]
  have hlen : As.length = methM.sig.parameters.length := by rw [← hdx, hsigM] at hln; exact (Option.some.inj hln).symm
  rw [zap_eq] at hstk
  obtain ⟨vm₁, X₁, hstep₁⟩ := X0.invokevirtualUp hx hown (zw hG hW (zML_in hr) rfl) (zw hG hW hsm rfl) hK.2.2.2.2 hnx hmethM hstM (a := b) (cell := cellB) (by rw [hT]; exact g1)
    (fun z hz => by rw [g3] at hz; cases hz) hselP hmethM habM hkP hkPi (g := F0 m pc ls stk) rfl (argsL := As) (rest := st) hlen (by rw [← hstk]; simp) (by rw [hb]; exact d)
  exact z_goon hM hK hfr hlc hw kk kx E hR hn hk0 hlo hl hT X₁ (X₁.named hnamed) d (fun target hh => hstep₁ _ fun acts => by rw [doInvoke_state]; exact hh)
/-- the script -/
def zScr (X : zCx) (b n : Nat) (xs : Nat → Int32) : Prop := b < zB X ∧ va_X b n xs (zs X) (zs X).heap
theorem z_sld {b n p0 nx t : Nat} {xs : Nat → Int32} {i lv : Int32} {st : List Value} (j : Nat) (hS : zScr X b n xs) (hf : zlk (zFt M) pc = some (p0, .iaload, nx, lv, t)) (hi : i.toInt = (j : Int)) (hj : j < n) (kk : Z X M f h nx L (.int (xs j) :: st) Q) : Z X M f h pc L (.int i :: .ref b :: st) Q := by
  intro p ev s m args below meth c H locs ls E hR hn hk0 hlo hl
  obtain ⟨hG, hM, hx, hb, -, -, -, hown, hW, -⟩ := id E
  obtain ⟨d, rfl, -⟩ := zdn hM hf (n := 0) rfl
  obtain ⟨hin, hcl⟩ := z_ix hi hj
  obtain ⟨hbl, scr, h1, h2, h3, h4, h5⟩ := hS
  refine W.iald (v := .int (xs j)) hx hb (by rw [hR.2.2.1 b hbl]; exact h1) (State.isArrayOf_alike hW.alike h2) h3 (by rw [h4]; exact hin) (by rw [hcl]; exact h5 _ hj) rfl rfl d (kk p ev s m args below meth c H locs ls E hR hn hk0 hlo hl)
theorem z_slen {b n p0 nx t : Nat} {xs : Nat → Int32} {lv : Int32} {st : List Value} (hS : zScr X b n xs) (hf : zlk (zFt M) pc = some (p0, .arraylength, nx, lv, t)) (kk : Z X M f h nx L (.int (nI n) :: st) Q) : Z X M f h pc L (.ref b :: st) Q := by
  intro p ev s m args below meth c H locs ls E hR hn hk0 hlo hl
  obtain ⟨hG, hM, hx, hb, -, -, -, hown, hW, -⟩ := id E
  obtain ⟨d, rfl, -⟩ := zdn hM hf (n := 0) rfl
  obtain ⟨hbl, scr, h1, h2, h3, h4, h5⟩ := hS
  exact W.alen (n := nI n) hx hb (by rw [hR.2.2.1 b hbl]; exact h1) (State.isArrayOf_alike hW.alike h2) (by rw [h4]; rfl) rfl rfl d (kk p ev s m args below meth c H locs ls E hR hn hk0 hlo hl)
end ZX9
end
section
theorem PJ6_compare_7cf53 : (parseMethodDescriptor (zNm MJ6_compare_7cf53).desc).map (fun d => d.parameters.length) = some 2 := by decide +kernel
theorem PJ9_abs_067f4 : (parseMethodDescriptor (zNm MJ9_abs_067f4).desc).map (fun d => d.parameters.length) = some 1 := by decide +kernel
theorem PJ9_max_7cf53 : (parseMethodDescriptor (zNm MJ9_max_7cf53).desc).map (fun d => d.parameters.length) = some 2 := by decide +kernel
theorem PJ9_min_7cf53 : (parseMethodDescriptor (zNm MJ9_min_7cf53).desc).map (fun d => d.parameters.length) = some 2 := by decide +kernel
theorem PJxa1e45_init_da8c8 : (parseMethodDescriptor (zNm MJxa1e45_init_da8c8).desc).map (fun d => d.parameters.length) = some 0 := by decide +kernel
theorem PJxc12de_init_da8c8 : (parseMethodDescriptor (zNm MJxc12de_init_da8c8).desc).map (fun d => d.parameters.length) = some 0 := by decide +kernel
theorem PJx4a65c_init_da8c8 : (parseMethodDescriptor (zNm MJx4a65c_init_da8c8).desc).map (fun d => d.parameters.length) = some 0 := by decide +kernel
theorem PJx4a65c_grow_92f84 : (parseMethodDescriptor (zNm MJx4a65c_grow_92f84).desc).map (fun d => d.parameters.length) = some 1 := by decide +kernel
theorem PJx4a65c_grow_d5877 : (parseMethodDescriptor (zNm MJx4a65c_grow_d5877).desc).map (fun d => d.parameters.length) = some 0 := by decide +kernel
theorem PJx4a65c_size_8abf5 : (parseMethodDescriptor (zNm MJx4a65c_size_8abf5).desc).map (fun d => d.parameters.length) = some 0 := by decide +kernel
theorem PJx4a65c_isEmpty_aae02 : (parseMethodDescriptor (zNm MJx4a65c_isEmpty_aae02).desc).map (fun d => d.parameters.length) = some 0 := by decide +kernel
theorem PJx4a65c_elementData_915e3 : (parseMethodDescriptor (zNm MJx4a65c_elementData_915e3).desc).map (fun d => d.parameters.length) = some 1 := by decide +kernel
theorem PJx4a65c_get_915e3 : (parseMethodDescriptor (zNm MJx4a65c_get_915e3).desc).map (fun d => d.parameters.length) = some 1 := by decide +kernel
theorem PJx4a65c_add_72be8 : (parseMethodDescriptor (zNm MJx4a65c_add_72be8).desc).map (fun d => d.parameters.length) = some 3 := by decide +kernel
theorem PJx4a65c_add_9ea2d : (parseMethodDescriptor (zNm MJx4a65c_add_9ea2d).desc).map (fun d => d.parameters.length) = some 1 := by decide +kernel
theorem PJx4a65c_remove_915e3 : (parseMethodDescriptor (zNm MJx4a65c_remove_915e3).desc).map (fun d => d.parameters.length) = some 1 := by decide +kernel
theorem PJx4a65c_fastRemove_b59b0 : (parseMethodDescriptor (zNm MJx4a65c_fastRemove_b59b0).desc).map (fun d => d.parameters.length) = some 2 := by decide +kernel
theorem PJx4a65c_clear_da8c8 : (parseMethodDescriptor (zNm MJx4a65c_clear_da8c8).desc).map (fun d => d.parameters.length) = some 0 := by decide +kernel
theorem PJ7_copyOf_1904c : (parseMethodDescriptor (zNm MJ7_copyOf_1904c).desc).map (fun d => d.parameters.length) = some 2 := by decide +kernel
theorem PJ7_copyOf_6403c : (parseMethodDescriptor (zNm MJ7_copyOf_6403c).desc).map (fun d => d.parameters.length) = some 3 := by decide +kernel
theorem PJ15_checkIndex_7cf53 : (parseMethodDescriptor (zNm MJ15_checkIndex_7cf53).desc).map (fun d => d.parameters.length) = some 2 := by decide +kernel
theorem PJ8_newLength_cabcc : (parseMethodDescriptor (zNm MJ8_newLength_cabcc).desc).map (fun d => d.parameters.length) = some 3 := by decide +kernel
theorem PJ8_hugeLength_7cf53 : (parseMethodDescriptor (zNm MJ8_hugeLength_7cf53).desc).map (fun d => d.parameters.length) = some 2 := by decide +kernel
theorem PJ3_checkIndex_8e157 : (parseMethodDescriptor (zNm MJ3_checkIndex_8e157).desc).map (fun d => d.parameters.length) = some 3 := by decide +kernel
theorem PX0_init : (parseMethodDescriptor (zNm MX0_init).desc).map (fun d => d.parameters.length) = some 5 := by decide +kernel
theorem PX0_redzone : (parseMethodDescriptor (zNm MX0_redzone).desc).map (fun d => d.parameters.length) = some 1 := by decide +kernel
theorem PX0_chunkBytesFor : (parseMethodDescriptor (zNm MX0_chunkBytesFor).desc).map (fun d => d.parameters.length) = some 1 := by decide +kernel
theorem PX0_isLost : (parseMethodDescriptor (zNm MX0_isLost).desc).map (fun d => d.parameters.length) = some 0 := by decide +kernel
theorem PX0_answer : (parseMethodDescriptor (zNm MX0_answer).desc).map (fun d => d.parameters.length) = some 1 := by decide +kernel
theorem PX1_init : (parseMethodDescriptor (zNm MX1_init).desc).map (fun d => d.parameters.length) = some 2 := by decide +kernel
theorem PX2_init : (parseMethodDescriptor (zNm MX2_init).desc).map (fun d => d.parameters.length) = some 1 := by decide +kernel
theorem PX2_count : (parseMethodDescriptor (zNm MX2_count).desc).map (fun d => d.parameters.length) = some 0 := by decide +kernel
theorem PX2_spanOf : (parseMethodDescriptor (zNm MX2_spanOf).desc).map (fun d => d.parameters.length) = some 1 := by decide +kernel
theorem PX2_push : (parseMethodDescriptor (zNm MX2_push).desc).map (fun d => d.parameters.length) = some 4 := by decide +kernel
theorem PX2_addVariable : (parseMethodDescriptor (zNm MX2_addVariable).desc).map (fun d => d.parameters.length) = some 3 := by decide +kernel
theorem PX2_paintFrame : (parseMethodDescriptor (zNm MX2_paintFrame).desc).map (fun d => d.parameters.length) = some 1 := by decide +kernel
theorem PX2_pop : (parseMethodDescriptor (zNm MX2_pop).desc).map (fun d => d.parameters.length) = some 0 := by decide +kernel
theorem PX2_setScope : (parseMethodDescriptor (zNm MX2_setScope).desc).map (fun d => d.parameters.length) = some 2 := by decide +kernel
theorem PX2_nearestTo : (parseMethodDescriptor (zNm MX2_nearestTo).desc).map (fun d => d.parameters.length) = some 1 := by decide +kernel
theorem PX3_init : (parseMethodDescriptor (zNm MX3_init).desc).map (fun d => d.parameters.length) = some 1 := by decide +kernel
theorem PX3_place : (parseMethodDescriptor (zNm MX3_place).desc).map (fun d => d.parameters.length) = some 1 := by decide +kernel
theorem PX3_nextAddress : (parseMethodDescriptor (zNm MX3_nextAddress).desc).map (fun d => d.parameters.length) = some 0 := by decide +kernel
theorem PX3_nearestTo : (parseMethodDescriptor (zNm MX3_nearestTo).desc).map (fun d => d.parameters.length) = some 1 := by decide +kernel
theorem PX4_init : (parseMethodDescriptor (zNm MX4_init).desc).map (fun d => d.parameters.length) = some 2 := by decide +kernel
theorem PX4_give : (parseMethodDescriptor (zNm MX4_give).desc).map (fun d => d.parameters.length) = some 3 := by decide +kernel
theorem PX4_unitWithRoom : (parseMethodDescriptor (zNm MX4_unitWithRoom).desc).map (fun d => d.parameters.length) = some 1 := by decide +kernel
theorem PX4_firstFreeRun : (parseMethodDescriptor (zNm MX4_firstFreeRun).desc).map (fun d => d.parameters.length) = some 1 := by decide +kernel
theorem PX4_setOwner : (parseMethodDescriptor (zNm MX4_setOwner).desc).map (fun d => d.parameters.length) = some 2 := by decide +kernel
theorem PX4_takeBack : (parseMethodDescriptor (zNm MX4_takeBack).desc).map (fun d => d.parameters.length) = some 2 := by decide +kernel
theorem PX4_releaseOldest : (parseMethodDescriptor (zNm MX4_releaseOldest).desc).map (fun d => d.parameters.length) = some 0 := by decide +kernel
theorem PX4_chunkOwner : (parseMethodDescriptor (zNm MX4_chunkOwner).desc).map (fun d => d.parameters.length) = some 1 := by decide +kernel
theorem PX4_blockAt : (parseMethodDescriptor (zNm MX4_blockAt).desc).map (fun d => d.parameters.length) = some 1 := by decide +kernel
theorem PX4_liveBlockWith : (parseMethodDescriptor (zNm MX4_liveBlockWith).desc).map (fun d => d.parameters.length) = some 1 := by decide +kernel
theorem PX4_nearestTo : (parseMethodDescriptor (zNm MX4_nearestTo).desc).map (fun d => d.parameters.length) = some 1 := by decide +kernel
theorem PX5_init : (parseMethodDescriptor (zNm MX5_init).desc).map (fun d => d.parameters.length) = some 4 := by decide +kernel
theorem PX5_firstFrom : (parseMethodDescriptor (zNm MX5_firstFrom).desc).map (fun d => d.parameters.length) = some 2 := by decide +kernel
theorem PX5_count : (parseMethodDescriptor (zNm MX5_count).desc).map (fun d => d.parameters.length) = some 0 := by decide +kernel
theorem PX5_markFound : (parseMethodDescriptor (zNm MX5_markFound).desc).map (fun d => d.parameters.length) = some 0 := by decide +kernel
theorem PX5_findFrom : (parseMethodDescriptor (zNm MX5_findFrom).desc).map (fun d => d.parameters.length) = some 1 := by decide +kernel
theorem PX5_markLedToByLost : (parseMethodDescriptor (zNm MX5_markLedToByLost).desc).map (fun d => d.parameters.length) = some 0 := by decide +kernel
theorem PX5_markLedToFrom : (parseMethodDescriptor (zNm MX5_markLedToFrom).desc).map (fun d => d.parameters.length) = some 1 := by decide +kernel
theorem PX5_ledToFrom : (parseMethodDescriptor (zNm MX5_ledToFrom).desc).map (fun d => d.parameters.length) = some 1 := by decide +kernel
theorem PX6_init : (parseMethodDescriptor (zNm MX6_init).desc).map (fun d => d.parameters.length) = some 1 := by decide +kernel
theorem PX6_isAddress : (parseMethodDescriptor (zNm MX6_isAddress).desc).map (fun d => d.parameters.length) = some 1 := by decide +kernel
theorem PX6_holds : (parseMethodDescriptor (zNm MX6_holds).desc).map (fun d => d.parameters.length) = some 2 := by decide +kernel
theorem PX6_granules : (parseMethodDescriptor (zNm MX6_granules).desc).map (fun d => d.parameters.length) = some 0 := by decide +kernel
theorem PX6_shadowOf : (parseMethodDescriptor (zNm MX6_shadowOf).desc).map (fun d => d.parameters.length) = some 1 := by decide +kernel
theorem PX6_byteAt : (parseMethodDescriptor (zNm MX6_byteAt).desc).map (fun d => d.parameters.length) = some 1 := by decide +kernel
theorem PX6_paint : (parseMethodDescriptor (zNm MX6_paint).desc).map (fun d => d.parameters.length) = some 3 := by decide +kernel
theorem PX6_open : (parseMethodDescriptor (zNm MX6_open).desc).map (fun d => d.parameters.length) = some 2 := by decide +kernel
theorem PX6_exchangeWhole : (parseMethodDescriptor (zNm MX6_exchangeWhole).desc).map (fun d => d.parameters.length) = some 4 := by decide +kernel
theorem PX6_goodBytes : (parseMethodDescriptor (zNm MX6_goodBytes).desc).map (fun d => d.parameters.length) = some 1 := by decide +kernel
theorem PX6_goodAddresses : (parseMethodDescriptor (zNm MX6_goodAddresses).desc).map (fun d => d.parameters.length) = some 0 := by decide +kernel
theorem PX6_isGood : (parseMethodDescriptor (zNm MX6_isGood).desc).map (fun d => d.parameters.length) = some 1 := by decide +kernel
theorem PX6_firstWrong : (parseMethodDescriptor (zNm MX6_firstWrong).desc).map (fun d => d.parameters.length) = some 2 := by decide +kernel
theorem PX6_kindOfWrong : (parseMethodDescriptor (zNm MX6_kindOfWrong).desc).map (fun d => d.parameters.length) = some 1 := by decide +kernel
theorem PX6_number : (parseMethodDescriptor (zNm MX6_number).desc).map (fun d => d.parameters.length) = some 2 := by decide +kernel
theorem PX6_setNumber : (parseMethodDescriptor (zNm MX6_setNumber).desc).map (fun d => d.parameters.length) = some 3 := by decide +kernel
theorem PX6_setBytes : (parseMethodDescriptor (zNm MX6_setBytes).desc).map (fun d => d.parameters.length) = some 3 := by decide +kernel
theorem PX6_moveBytes : (parseMethodDescriptor (zNm MX6_moveBytes).desc).map (fun d => d.parameters.length) = some 3 := by decide +kernel
theorem PX7_init : (parseMethodDescriptor (zNm MX7_init).desc).map (fun d => d.parameters.length) = some 5 := by decide +kernel
theorem PX7_hasByte : (parseMethodDescriptor (zNm MX7_hasByte).desc).map (fun d => d.parameters.length) = some 1 := by decide +kernel
theorem PX7_farFrom : (parseMethodDescriptor (zNm MX7_farFrom).desc).map (fun d => d.parameters.length) = some 1 := by decide +kernel
theorem PX7_sideOf : (parseMethodDescriptor (zNm MX7_sideOf).desc).map (fun d => d.parameters.length) = some 1 := by decide +kernel
theorem PX8_init : (parseMethodDescriptor (zNm MX8_init).desc).map (fun d => d.parameters.length) = some 5 := by decide +kernel
theorem PX8_answer : (parseMethodDescriptor (zNm MX8_answer).desc).map (fun d => d.parameters.length) = some 1 := by decide +kernel
theorem PX9_init : (parseMethodDescriptor (zNm MX9_init).desc).map (fun d => d.parameters.length) = some 3 := by decide +kernel
theorem PX10_init : (parseMethodDescriptor (zNm MX10_init).desc).map (fun d => d.parameters.length) = some 2 := by decide +kernel
theorem PX10_global : (parseMethodDescriptor (zNm MX10_global).desc).map (fun d => d.parameters.length) = some 1 := by decide +kernel
theorem PX10_enter : (parseMethodDescriptor (zNm MX10_enter).desc).map (fun d => d.parameters.length) = some 4 := by decide +kernel
theorem PX10_leave : (parseMethodDescriptor (zNm MX10_leave).desc).map (fun d => d.parameters.length) = some 0 := by decide +kernel
theorem PX10_scope : (parseMethodDescriptor (zNm MX10_scope).desc).map (fun d => d.parameters.length) = some 3 := by decide +kernel
theorem PX10_variable : (parseMethodDescriptor (zNm MX10_variable).desc).map (fun d => d.parameters.length) = some 2 := by decide +kernel
theorem PX10_allocate : (parseMethodDescriptor (zNm MX10_allocate).desc).map (fun d => d.parameters.length) = some 3 := by decide +kernel
theorem PX10_free : (parseMethodDescriptor (zNm MX10_free).desc).map (fun d => d.parameters.length) = some 3 := by decide +kernel
theorem PX10_resize : (parseMethodDescriptor (zNm MX10_resize).desc).map (fun d => d.parameters.length) = some 3 := by decide +kernel
theorem PX10_load : (parseMethodDescriptor (zNm MX10_load).desc).map (fun d => d.parameters.length) = some 2 := by decide +kernel
theorem PX10_store : (parseMethodDescriptor (zNm MX10_store).desc).map (fun d => d.parameters.length) = some 3 := by decide +kernel
theorem PX10_fill : (parseMethodDescriptor (zNm MX10_fill).desc).map (fun d => d.parameters.length) = some 3 := by decide +kernel
theorem PX10_copy : (parseMethodDescriptor (zNm MX10_copy).desc).map (fun d => d.parameters.length) = some 4 := by decide +kernel
theorem PX10_length : (parseMethodDescriptor (zNm MX10_length).desc).map (fun d => d.parameters.length) = some 1 := by decide +kernel
theorem PX10_text : (parseMethodDescriptor (zNm MX10_text).desc).map (fun d => d.parameters.length) = some 2 := by decide +kernel
theorem PX10_compare : (parseMethodDescriptor (zNm MX10_compare).desc).map (fun d => d.parameters.length) = some 3 := by decide +kernel
theorem PX10_lock : (parseMethodDescriptor (zNm MX10_lock).desc).map (fun d => d.parameters.length) = some 2 := by decide +kernel
theorem PX10_unlock : (parseMethodDescriptor (zNm MX10_unlock).desc).map (fun d => d.parameters.length) = some 2 := by decide +kernel
theorem PX10_report : (parseMethodDescriptor (zNm MX10_report).desc).map (fun d => d.parameters.length) = some 2 := by decide +kernel
theorem PX10_block : (parseMethodDescriptor (zNm MX10_block).desc).map (fun d => d.parameters.length) = some 2 := by decide +kernel
theorem PX10_shadow : (parseMethodDescriptor (zNm MX10_shadow).desc).map (fun d => d.parameters.length) = some 1 := by decide +kernel
theorem PX10_peek : (parseMethodDescriptor (zNm MX10_peek).desc).map (fun d => d.parameters.length) = some 1 := by decide +kernel
theorem PX10_held : (parseMethodDescriptor (zNm MX10_held).desc).map (fun d => d.parameters.length) = some 1 := by decide +kernel
theorem PX10_lost : (parseMethodDescriptor (zNm MX10_lost).desc).map (fun d => d.parameters.length) = some 2 := by decide +kernel
theorem PX10_told : (parseMethodDescriptor (zNm MX10_told).desc).map (fun d => d.parameters.length) = some 1 := by decide +kernel
theorem PX10_demand : (parseMethodDescriptor (zNm MX10_demand).desc).map (fun d => d.parameters.length) = some 1 := by decide +kernel
theorem PX10_demandIndex : (parseMethodDescriptor (zNm MX10_demandIndex).desc).map (fun d => d.parameters.length) = some 2 := by decide +kernel
theorem PX10_isVariableSize : (parseMethodDescriptor (zNm MX10_isVariableSize).desc).map (fun d => d.parameters.length) = some 1 := by decide +kernel
theorem PX10_isBlockKind : (parseMethodDescriptor (zNm MX10_isBlockKind).desc).map (fun d => d.parameters.length) = some 1 := by decide +kernel
theorem PX10_isCount : (parseMethodDescriptor (zNm MX10_isCount).desc).map (fun d => d.parameters.length) = some 1 := by decide +kernel
theorem PX10_roundUp : (parseMethodDescriptor (zNm MX10_roundUp).desc).map (fun d => d.parameters.length) = some 2 := by decide +kernel
theorem PX10_variableOf : (parseMethodDescriptor (zNm MX10_variableOf).desc).map (fun d => d.parameters.length) = some 2 := by decide +kernel
theorem PX10_blockToFree : (parseMethodDescriptor (zNm MX10_blockToFree).desc).map (fun d => d.parameters.length) = some 2 := by decide +kernel
theorem PX10_permits : (parseMethodDescriptor (zNm MX10_permits).desc).map (fun d => d.parameters.length) = some 3 := by decide +kernel
theorem PX10_tell : (parseMethodDescriptor (zNm MX10_tell).desc).map (fun d => d.parameters.length) = some 4 := by decide +kernel
theorem PX10_nearer : (parseMethodDescriptor (zNm MX10_nearer).desc).map (fun d => d.parameters.length) = some 3 := by decide +kernel
theorem PX11_init : (parseMethodDescriptor (zNm MX11_init).desc).map (fun d => d.parameters.length) = some 2 := by decide +kernel
theorem PX11_thrown : (parseMethodDescriptor (zNm MX11_thrown).desc).map (fun d => d.parameters.length) = some 0 := by decide +kernel
theorem PX11_refuses : (parseMethodDescriptor (zNm MX11_refuses).desc).map (fun d => d.parameters.length) = some 1 := by decide +kernel
theorem PX11_paint : (parseMethodDescriptor (zNm MX11_paint).desc).map (fun d => d.parameters.length) = some 3 := by decide +kernel
theorem PX11_opens : (parseMethodDescriptor (zNm MX11_opens).desc).map (fun d => d.parameters.length) = some 2 := by decide +kernel
theorem PX11_global : (parseMethodDescriptor (zNm MX11_global).desc).map (fun d => d.parameters.length) = some 1 := by decide +kernel
theorem PX11_padded : (parseMethodDescriptor (zNm MX11_padded).desc).map (fun d => d.parameters.length) = some 1 := by decide +kernel
theorem PX11_isSize : (parseMethodDescriptor (zNm MX11_isSize).desc).map (fun d => d.parameters.length) = some 1 := by decide +kernel
theorem PX11_enter : (parseMethodDescriptor (zNm MX11_enter).desc).map (fun d => d.parameters.length) = some 4 := by decide +kernel
theorem PX11_leave : (parseMethodDescriptor (zNm MX11_leave).desc).map (fun d => d.parameters.length) = some 0 := by decide +kernel
theorem PX11_noVariable : (parseMethodDescriptor (zNm MX11_noVariable).desc).map (fun d => d.parameters.length) = some 2 := by decide +kernel
theorem PX11_scope : (parseMethodDescriptor (zNm MX11_scope).desc).map (fun d => d.parameters.length) = some 3 := by decide +kernel
theorem PX11_variable : (parseMethodDescriptor (zNm MX11_variable).desc).map (fun d => d.parameters.length) = some 2 := by decide +kernel
theorem PX11_redzone : (parseMethodDescriptor (zNm MX11_redzone).desc).map (fun d => d.parameters.length) = some 1 := by decide +kernel
theorem PX11_isFree : (parseMethodDescriptor (zNm MX11_isFree).desc).map (fun d => d.parameters.length) = some 2 := by decide +kernel
theorem PX11_placeFor : (parseMethodDescriptor (zNm MX11_placeFor).desc).map (fun d => d.parameters.length) = some 1 := by decide +kernel
theorem PX11_oldestLeaves : (parseMethodDescriptor (zNm MX11_oldestLeaves).desc).map (fun d => d.parameters.length) = some 0 := by decide +kernel
theorem PX11_given : (parseMethodDescriptor (zNm MX11_given).desc).map (fun d => d.parameters.length) = some 3 := by decide +kernel
theorem PX11_allocate : (parseMethodDescriptor (zNm MX11_allocate).desc).map (fun d => d.parameters.length) = some 3 := by decide +kernel
theorem PX11_heldBytes : (parseMethodDescriptor (zNm MX11_heldBytes).desc).map (fun d => d.parameters.length) = some 0 := by decide +kernel
theorem PX11_goes : (parseMethodDescriptor (zNm MX11_goes).desc).map (fun d => d.parameters.length) = some 2 := by decide +kernel
theorem PX11_blockIn : (parseMethodDescriptor (zNm MX11_blockIn).desc).map (fun d => d.parameters.length) = some 2 := by decide +kernel
theorem PX11_mayGo : (parseMethodDescriptor (zNm MX11_mayGo).desc).map (fun d => d.parameters.length) = some 2 := by decide +kernel
theorem PX11_free : (parseMethodDescriptor (zNm MX11_free).desc).map (fun d => d.parameters.length) = some 3 := by decide +kernel
theorem PX11_resize : (parseMethodDescriptor (zNm MX11_resize).desc).map (fun d => d.parameters.length) = some 3 := by decide +kernel
theorem PX11_far : (parseMethodDescriptor (zNm MX11_far).desc).map (fun d => d.parameters.length) = some 3 := by decide +kernel
theorem PX11_tells : (parseMethodDescriptor (zNm MX11_tells).desc).map (fun d => d.parameters.length) = some 4 := by decide +kernel
theorem PX11_regionAt : (parseMethodDescriptor (zNm MX11_regionAt).desc).map (fun d => d.parameters.length) = some 2 := by decide +kernel
theorem PX11_nearer : (parseMethodDescriptor (zNm MX11_nearer).desc).map (fun d => d.parameters.length) = some 6 := by decide +kernel
theorem PX11_wrong : (parseMethodDescriptor (zNm MX11_wrong).desc).map (fun d => d.parameters.length) = some 1 := by decide +kernel
theorem PX11_right : (parseMethodDescriptor (zNm MX11_right).desc).map (fun d => d.parameters.length) = some 5 := by decide +kernel
theorem PX11_load : (parseMethodDescriptor (zNm MX11_load).desc).map (fun d => d.parameters.length) = some 2 := by decide +kernel
theorem PX11_store : (parseMethodDescriptor (zNm MX11_store).desc).map (fun d => d.parameters.length) = some 3 := by decide +kernel
theorem PX11_noAmount : (parseMethodDescriptor (zNm MX11_noAmount).desc).map (fun d => d.parameters.length) = some 1 := by decide +kernel
theorem PX11_fill : (parseMethodDescriptor (zNm MX11_fill).desc).map (fun d => d.parameters.length) = some 3 := by decide +kernel
theorem PX11_copies : (parseMethodDescriptor (zNm MX11_copies).desc).map (fun d => d.parameters.length) = some 4 := by decide +kernel
theorem PX11_copy : (parseMethodDescriptor (zNm MX11_copy).desc).map (fun d => d.parameters.length) = some 4 := by decide +kernel
theorem PX11_lengthOf : (parseMethodDescriptor (zNm MX11_lengthOf).desc).map (fun d => d.parameters.length) = some 1 := by decide +kernel
theorem PX11_length : (parseMethodDescriptor (zNm MX11_length).desc).map (fun d => d.parameters.length) = some 1 := by decide +kernel
theorem PX11_text : (parseMethodDescriptor (zNm MX11_text).desc).map (fun d => d.parameters.length) = some 2 := by decide +kernel
theorem PX11_compare : (parseMethodDescriptor (zNm MX11_compare).desc).map (fun d => d.parameters.length) = some 3 := by decide +kernel
theorem PX11_change : (parseMethodDescriptor (zNm MX11_change).desc).map (fun d => d.parameters.length) = some 4 := by decide +kernel
theorem PX11_lock : (parseMethodDescriptor (zNm MX11_lock).desc).map (fun d => d.parameters.length) = some 2 := by decide +kernel
theorem PX11_unlock : (parseMethodDescriptor (zNm MX11_unlock).desc).map (fun d => d.parameters.length) = some 2 := by decide +kernel
theorem PX11_report : (parseMethodDescriptor (zNm MX11_report).desc).map (fun d => d.parameters.length) = some 2 := by decide +kernel
theorem PX11_block : (parseMethodDescriptor (zNm MX11_block).desc).map (fun d => d.parameters.length) = some 2 := by decide +kernel
theorem PX11_shadow : (parseMethodDescriptor (zNm MX11_shadow).desc).map (fun d => d.parameters.length) = some 1 := by decide +kernel
theorem PX11_peek : (parseMethodDescriptor (zNm MX11_peek).desc).map (fun d => d.parameters.length) = some 1 := by decide +kernel
theorem PX11_held : (parseMethodDescriptor (zNm MX11_held).desc).map (fun d => d.parameters.length) = some 1 := by decide +kernel
theorem PX11_word : (parseMethodDescriptor (zNm MX11_word).desc).map (fun d => d.parameters.length) = some 1 := by decide +kernel
theorem PX11_leads : (parseMethodDescriptor (zNm MX11_leads).desc).map (fun d => d.parameters.length) = some 3 := by decide +kernel
theorem PX11_isRooted : (parseMethodDescriptor (zNm MX11_isRooted).desc).map (fun d => d.parameters.length) = some 1 := by decide +kernel
theorem PX11_walk : (parseMethodDescriptor (zNm MX11_walk).desc).map (fun d => d.parameters.length) = some 0 := by decide +kernel
theorem PX11_isLost : (parseMethodDescriptor (zNm MX11_isLost).desc).map (fun d => d.parameters.length) = some 1 := by decide +kernel
theorem PX11_isAlone : (parseMethodDescriptor (zNm MX11_isAlone).desc).map (fun d => d.parameters.length) = some 1 := by decide +kernel
theorem PX11_lost : (parseMethodDescriptor (zNm MX11_lost).desc).map (fun d => d.parameters.length) = some 2 := by decide +kernel
theorem PX11_told : (parseMethodDescriptor (zNm MX11_told).desc).map (fun d => d.parameters.length) = some 1 := by decide +kernel
theorem PX11_good : (parseMethodDescriptor (zNm MX11_good).desc).map (fun d => d.parameters.length) = some 0 := by decide +kernel
theorem PL_cell : (parseMethodDescriptor (zNm ML_cell).desc).map (fun d => d.parameters.length) = some 2 := by decide +kernel
theorem PL_global : (parseMethodDescriptor (zNm ML_global).desc).map (fun d => d.parameters.length) = some 3 := by decide +kernel
theorem PL_enter : (parseMethodDescriptor (zNm ML_enter).desc).map (fun d => d.parameters.length) = some 6 := by decide +kernel
theorem PL_leave : (parseMethodDescriptor (zNm ML_leave).desc).map (fun d => d.parameters.length) = some 2 := by decide +kernel
theorem PL_scope : (parseMethodDescriptor (zNm ML_scope).desc).map (fun d => d.parameters.length) = some 5 := by decide +kernel
theorem PL_variable : (parseMethodDescriptor (zNm ML_variable).desc).map (fun d => d.parameters.length) = some 4 := by decide +kernel
theorem PL_allocate : (parseMethodDescriptor (zNm ML_allocate).desc).map (fun d => d.parameters.length) = some 5 := by decide +kernel
theorem PL_free : (parseMethodDescriptor (zNm ML_free).desc).map (fun d => d.parameters.length) = some 5 := by decide +kernel
theorem PL_resize : (parseMethodDescriptor (zNm ML_resize).desc).map (fun d => d.parameters.length) = some 5 := by decide +kernel
theorem PL_load : (parseMethodDescriptor (zNm ML_load).desc).map (fun d => d.parameters.length) = some 4 := by decide +kernel
theorem PL_store : (parseMethodDescriptor (zNm ML_store).desc).map (fun d => d.parameters.length) = some 5 := by decide +kernel
theorem PL_fill : (parseMethodDescriptor (zNm ML_fill).desc).map (fun d => d.parameters.length) = some 5 := by decide +kernel
theorem PL_copy : (parseMethodDescriptor (zNm ML_copy).desc).map (fun d => d.parameters.length) = some 6 := by decide +kernel
theorem PL_compare : (parseMethodDescriptor (zNm ML_compare).desc).map (fun d => d.parameters.length) = some 5 := by decide +kernel
theorem PL_lock : (parseMethodDescriptor (zNm ML_lock).desc).map (fun d => d.parameters.length) = some 4 := by decide +kernel
theorem PL_unlock : (parseMethodDescriptor (zNm ML_unlock).desc).map (fun d => d.parameters.length) = some 4 := by decide +kernel
theorem PL_report : (parseMethodDescriptor (zNm ML_report).desc).map (fun d => d.parameters.length) = some 4 := by decide +kernel
theorem PL_block : (parseMethodDescriptor (zNm ML_block).desc).map (fun d => d.parameters.length) = some 4 := by decide +kernel
theorem PL_shadow : (parseMethodDescriptor (zNm ML_shadow).desc).map (fun d => d.parameters.length) = some 3 := by decide +kernel
theorem PL_peek : (parseMethodDescriptor (zNm ML_peek).desc).map (fun d => d.parameters.length) = some 3 := by decide +kernel
theorem PL_held : (parseMethodDescriptor (zNm ML_held).desc).map (fun d => d.parameters.length) = some 3 := by decide +kernel
theorem PL_told : (parseMethodDescriptor (zNm ML_told).desc).map (fun d => d.parameters.length) = some 3 := by decide +kernel
theorem PL_law : (parseMethodDescriptor (zNm ML_law).desc).map (fun d => d.parameters.length) = some 1 := by decide +kernel
end
section
/-! calls whose end is one heap and one value -/
def zX (h1 : zHp) (v : Option Value) : zRs → zHp → Prop := fun r h' => h' = h1 ∧ r = .inl v
section ZC
variable {X : zCx} {M : zMI} {f : zFr} {h : zHp} {pc : Nat} {L : zLo} {Q : zRs → zHp → Prop}
theorem z_cS {M' : zMI} {fr lo : Nat} {As st stk : List Value} {h1 : zHp} {v : Option Value} {p0 idx nx t : Nat} {lv : Int32} (hM : ZM X M' fr lo As h (zX h1 v)) (hK : zMK M') (hsa : Jvm.Cond.static (zNm M') ∈ lw_tbl) (hf : zlk (zFt M) pc = some (p0, .invokestatic idx, nx, lv, t)) (hr : zML[t]? = some ((zNm M).cls, idx, zNm M')) (hln : (parseMethodDescriptor (zNm M').desc).map (fun d => d.parameters.length) = some As.length) (hfr : Nat.ble (fr + 1) f.1 = true) (hlc : Nat.ble (8 + (zNL M' + 11) + lo) f.2.1 = true) (hstk : zap As st = stk) (hw : Nat.ble (zcat st) 8 = true)
    (kk : Z X M f h1 nx L (v.toList ++ st) Q) : Z X M f h pc L stk Q :=
  z_invS hM hK hsa hf hr hln hfr hlc hstk hw (fun v' h' q => by obtain ⟨rfl, q2⟩ := q; cases q2; exact kk) (fun E h' q => by cases q.2)
theorem z_cN {M' : zMI} {fr lo : Nat} {As st stk : List Value} {h1 : zHp} {v : Option Value} {p0 idx nx t : Nat} {lv : Int32} {host : String} (hM : ZM X M' fr lo As h (zX h1 v)) (hK : zMK M') (hsa : Jvm.Cond.static (zNm M') ∈ lw_tbl) (hf : zlk (zFt M) pc = some (p0, .invokestatic idx, nx, lv, t)) (hr : zMN[t]? = some ((zNm M).cls, idx, zNm M', host)) (hln : (parseMethodDescriptor (zNm M').desc).map (fun d => d.parameters.length) = some As.length) (hfr : Nat.ble (fr + 1) f.1 = true) (hlc : Nat.ble (8 + (zNL M' + 11) + lo) f.2.1 = true) (hstk : zap As st = stk) (hw : Nat.ble (zcat st) 8 = true)
    (kk : Z X M f h1 nx L (v.toList ++ st) Q) : Z X M f h pc L stk Q :=
  z_invN hM hK hsa hf hr hln hfr hlc hstk hw (fun v' h' q => by obtain ⟨rfl, q2⟩ := q; cases q2; exact kk) (fun E h' q => by cases q.2)
theorem z_cV {M' : zMI} {fr lo b ci : Nat} {fs As st stk : List Value} {h1 : zHp} {v : Option Value} {p0 idx nx t : Nat} {lv : Int32} (hob : h.1 b = some (.inr (ci, fs))) (hM : ZM X M' fr lo (.ref b :: As) h (zX h1 v)) (hK : zMK M') (hin : Jvm.Cond.instanceMethod (zNm M') ∈ lw_tbl) (hse : Jvm.Cond.selects (zcl ci).1 (zNm M') (zNm M') ∈ lw_tbl) (hci : Nat.ble (ci + 1) 13 = true) (hf : zlk (zFt M) pc = some (p0, .invokevirtual idx, nx, lv, t)) (hr : zML[t]? = some ((zNm M).cls, idx, zNm M')) (hln : (parseMethodDescriptor (zNm M').desc).map (fun d => d.parameters.length) = some As.length) (hfr : Nat.ble (fr + 1) f.1 = true) (hlc : Nat.ble (8 + (zNL M' + 11) + lo) f.2.1 = true) (hstk : zap (.ref b :: As) st = stk) (hw : Nat.ble (zcat st) 8 = true)
    (kk : Z X M f h1 nx L (v.toList ++ st) Q) : Z X M f h pc L stk Q :=
  z_invV hM hK hob (Nat.le_of_ble_eq_true hci) hin hse hf hr hln hfr hlc hstk hw (fun v' h' q => by obtain ⟨rfl, q2⟩ := q; cases q2; exact kk) (fun E h' q => by cases q.2)
theorem z_cI {M' : zMI} {fr lo b : Nat} {As st stk : List Value} {h1 : zHp} {v : Option Value} {p0 idx nx t : Nat} {lv : Int32} (hM : ZM X M' fr lo (.ref b :: As) h (zX h1 v)) (hK : zMK M') (hin : Jvm.Cond.instanceMethod (zNm M') ∈ lw_tbl) (hhh : zHh M' = []) (hrn : zRt M' = none) (hnm : (zNm M').name = "<init>") (hf : zlk (zFt M) pc = some (p0, .invokespecial idx, nx, lv, t)) (hr : zML[t]? = some ((zNm M).cls, idx, zNm M')) (hln : (parseMethodDescriptor (zNm M').desc).map (fun d => d.parameters.length) = some As.length) (hfr : Nat.ble (fr + 1) f.1 = true) (hlc : Nat.ble (8 + (zNL M' + 11) + lo) f.2.1 = true) (hstk : zap (.ref b :: As) st = stk) (hw : Nat.ble (zcat st) 8 = true)
    (kk : Z X M f h1 nx L (v.toList ++ st) Q) : Z X M f h pc L stk Q :=
  z_invI hM hK hhh hrn hnm hin hf hr hln hfr hlc hstk hw (fun v' h' q => by obtain ⟨rfl, q2⟩ := q; cases q2; exact kk) (fun E h' q => by cases q.2)
end ZC
section ZJ2
variable {X : zCx} {h : zHp}
theorem c_min (G : zG X) (a b : Int32) : ZM X MJ9_min_7cf53 0 100 [.int a, .int b] h (zX h (some (.int (if b < a then b else a)))) := by
  refine zm_of_z G KJ9_min_7cf53 rfl rfl ?_
  refine z_go 90 rfl ?_
  refine z_br rfl rfl (fun c => ?_) (fun c => ?_) <;> (try dsimp only at c)
  · refine z_go 90 rfl ?_
    exact z_iret rfl rfl ⟨rfl, by rw [if_pos c]⟩
  · refine z_go 90 rfl ?_
    exact z_iret rfl rfl ⟨rfl, by rw [if_neg c]⟩
theorem c_abs (G : zG X) (a : Int64) : ZM X MJ9_abs_067f4 0 100 [.long a] h (zX h (some (.long (if a < 0 then -a else a)))) := by
  refine zm_of_z G KJ9_abs_067f4 rfl rfl ?_
  refine z_go 90 rfl ?_
  refine z_br rfl rfl (fun c => ?_) (fun c => ?_) <;> (try dsimp only at c)
  · refine z_go 90 rfl ?_
    rw [i_le] at c
    exact z_lret rfl rfl ⟨rfl, by rw [if_neg (fun d => by have := (lg_cmp_lt a 0).mpr d; rw [i_lt] at this; omega)]⟩
  · refine z_go 90 rfl ?_
    rw [i_le] at c
    exact z_lret rfl rfl ⟨rfl, by rw [if_pos ((lg_cmp_lt a 0).mp (by rw [i_lt]; omega))]⟩
theorem c_cmp (G : zG X) (a b : Int32) : ZM X MJ6_compare_7cf53 0 100 [.int a, .int b] h (zX h (some (.int (if a < b then -1 else if a = b then 0 else 1)))) := by
  refine zm_of_z G KJ6_compare_7cf53 rfl rfl ?_
  refine z_go 90 rfl ?_
  refine z_br rfl rfl (fun c => ?_) (fun c => ?_) <;> (try dsimp only at c)
  · refine z_go 90 rfl ?_
    rw [i_le] at c
    refine z_br rfl rfl (fun d => ?_) (fun d => ?_) <;> (try dsimp only at d)
    · refine z_go 90 rfl ?_
      exact z_iret rfl rfl ⟨rfl, by rw [if_neg (by rw [i_lt]; omega), if_neg d]⟩
    · refine z_go 90 rfl ?_
      exact z_iret rfl rfl ⟨rfl, by rw [if_neg (by rw [i_lt]; omega), if_pos d]⟩
  · refine z_go 90 rfl ?_
    rw [i_le] at c
    exact z_iret rfl rfl ⟨rfl, by rw [if_pos (by rw [i_lt]; omega)]⟩
end ZJ2
section ZWF
variable {X : zCx} {M : zMI} {f : zFr} {h : zHp} {pc : Nat} {L : zLo} {st : List Value} {Q : zRs → zHp → Prop}
/-- what may be taken of every heap that a run meets -/
theorem z_wf (k : (∀ a e, h.1 a = some e → zB X ≤ a ∧ a < h.2.1) → zLim X h → Z X M f h pc L st Q) : Z X M f h pc L st Q := by
  intro p ev s m args below meth c H locs ls E hR
  exact k (fun a e ha => ⟨(hR.2.2.2.1 a e ha).1, by have := (hR.2.2.2.1 a e ha).2.lt; have := hR.1; omega⟩) hR.2.2.2.2 p ev s m args below meth c H locs ls E hR
theorem z_ite {p : Prop} (c1 : p → Z X M f h pc L st Q) (c2 : ¬ p → Z X M f h pc L st Q) : Z X M f h pc L st Q := (Classical.em p).elim c1 c2
theorem z_alenO {a cap : Nat} {g : Nat → Option Nat} {p0 nx t : Nat} {lv : Int32} (hh : h.1 a = some (zOb X cap g)) (hf : zlk (zFt M) pc = some (p0, .arraylength, nx, lv, t)) (kk : Z X M f h nx L (.int (nI cap) :: st) Q) : Z X M f h pc L (.ref a :: st) Q := z_alen (k := 4) (by decide) hh hf kk
end ZWF
theorem n_succ (k : Nat) : nI k + 1 = nI (k + 1) := by
  unfold nI
  rw [Int32.ofNat_add]
  rfl
theorem n_lt {a b : Nat} (ha : a < 2147483648) (hb : b < 2147483648) : nI a < nI b ↔ a < b := by
  rw [i_lt, i_nI ha, i_nI hb]; omega
theorem n_le {a b : Nat} (ha : a < 2147483648) (hb : b < 2147483648) : nI a ≤ nI b ↔ a ≤ b := by
  rw [i_le, i_nI ha, i_nI hb]; omega
theorem n_eq {a b : Nat} (ha : a < 2147483648) (hb : b < 2147483648) : nI a = nI b ↔ a = b := by
  rw [i_eq, i_nI ha, i_nI hb]; omega
theorem zset_at (h : zHp) (a : Nat) (e : va_E) : (zset h a e).1 a = some e := if_pos rfl
theorem zset_ne (h : zHp) {a b : Nat} (e : va_E) (c : b ≠ a) : (zset h a e).1 b = h.1 b := if_neg c
theorem zset_set (h : zHp) (a : Nat) (e e' : va_E) : zset (zset h a e) a e' = zset h a e' := by
  unfold zset
  refine Prod.ext (funext fun b => ?_) rfl
  by_cases c : b = a <;> simp [c]
theorem zset_comm (h : zHp) {a b : Nat} (e e' : va_E) (c : a ≠ b) : zset (zset h a e) b e' = zset (zset h b e') a e := by
  unfold zset
  refine Prod.ext (funext fun q => ?_) rfl
  by_cases d : q = a
  · subst d; simp [c]
  · by_cases d' : q = b
    · subst d'; simp [d]
    · simp [d, d']
theorem znew_at (h : zHp) (e : va_E) (k : Nat) : (znew h e k).1 h.2.1 = some e := if_pos rfl
theorem znew_ne (h : zHp) {b : Nat} (e : va_E) (k : Nat) (c : b ≠ h.2.1) : (znew h e k).1 b = h.1 b := if_neg c
end
section
/-! ArrayList -/
/-- a list's row of elements: the shared empty one, or one of its own -/
def zAr (X : zCx) (h : zHp) (d cap : Nat) (g : Nat → Option Nat) : Prop := (cap = 0 ∧ zDef X d) ∨ (0 < cap ∧ h.1 d = some (zOb X cap g))
abbrev zLc (mc : Int32) (d n : Nat) : va_E := .inr (0, [.int mc, .ref d, .int (nI n)])
def zAl (X : zCx) (h : zHp) (a d : Nat) (mc : Int32) (n cap : Nat) (g : Nat → Option Nat) : Prop := h.1 a = some (zLc mc d n) ∧ zAr X h d cap g ∧ n ≤ cap ∧ cap ≤ 2000
def zgrow (cap : Nat) : Nat := if cap = 0 then 10 else cap + (if 1 < cap / 2 then cap / 2 else 1)
section ZAL
variable {X : zCx} {h : zHp}
theorem c_size (G : zG X) {a : Nat} {x y z : Value} {s : Int32} (hh : h.1 a = some (.inr (0, [x, y, .int s]))) : ZM X MJx4a65c_size_8abf5 0 100 [.ref a] h (zX h (some (.int s))) := by
  refine zm_of_z G KJx4a65c_size_8abf5 rfl rfl ?_
  refine z_go 90 rfl ?_
  refine z_get hh rfl rfl rfl rfl ?_
  refine z_go 90 rfl ?_
  exact z_iret rfl rfl ⟨rfl, rfl⟩
theorem c_isEmpty (G : zG X) {a : Nat} {x y : Value} {n : Nat} (hn : n < 2147483648) (hh : h.1 a = some (.inr (0, [x, y, .int (nI n)]))) : ZM X MJx4a65c_isEmpty_aae02 0 100 [.ref a] h (zX h (some (.int (if n = 0 then 1 else 0)))) := by
  refine zm_of_z G KJx4a65c_isEmpty_aae02 rfl rfl ?_
  refine z_go 90 rfl ?_
  refine z_get hh rfl rfl rfl rfl ?_
  refine z_go 90 rfl ?_
  refine z_br rfl rfl (fun c => ?_) (fun c => ?_) <;> (try dsimp only at c)
  · refine z_go 90 rfl ?_
    rw [show (0 : Int32) = nI 0 from rfl, n_eq hn (by omega)] at c
    exact z_zret rfl rfl rfl ⟨rfl, by rw [if_neg c]⟩
  · refine z_go 90 rfl ?_
    rw [show (0 : Int32) = nI 0 from rfl, n_eq hn (by omega)] at c
    exact z_zret rfl rfl rfl ⟨rfl, by rw [if_pos c]⟩
theorem c_chk3 (G : zG X) (i n : Int32) (h1 : 0 ≤ i.toInt) (h2 : i.toInt < n.toInt) : ZM X MJ3_checkIndex_8e157 0 100 [.int i, .int n, .null] h (zX h (some (.int i))) := by
  refine zm_of_z G KJ3_checkIndex_8e157 rfl rfl ?_
  refine z_go 90 rfl ?_
  refine z_br rfl rfl (fun c => ?_) (fun c => ?_) <;> (try dsimp only at c)
  · rw [i_lt] at c
    have : (0 : Int32).toInt = 0 := rfl
    omega
  · refine z_go 90 rfl ?_
    refine z_br rfl rfl (fun d => ?_) (fun d => ?_) <;> (try dsimp only at d)
    · refine z_go 90 rfl ?_
      exact z_iret rfl rfl ⟨rfl, rfl⟩
    · rw [i_lt] at d
      omega
theorem c_chk (G : zG X) (i n : Int32) (h1 : 0 ≤ i.toInt) (h2 : i.toInt < n.toInt) : ZM X MJ15_checkIndex_7cf53 1 127 [.int i, .int n] h (zX h (some (.int i))) := by
  refine zm_of_z G KJ15_checkIndex_7cf53 rfl rfl ?_
  refine z_go 90 rfl ?_
  refine z_cS (c_chk3 G i n h1 h2) KJ3_checkIndex_8e157 SJ3_checkIndex_8e157 rfl rfl PJ3_checkIndex_8e157 rfl rfl rfl rfl ?_
  refine z_go 90 rfl ?_
  exact z_iret rfl rfl ⟨rfl, rfl⟩
theorem c_elem (G : zG X) {a d cap : Nat} {x z : Value} {g : Nat → Option Nat} {i : Int32} (j : Nat) (hh : h.1 a = some (.inr (0, [x, .ref d, z]))) (hd : h.1 d = some (zOb X cap g)) (hi : i.toInt = (j : Int)) (hj : j < cap) : ZM X MJx4a65c_elementData_915e3 0 100 [.ref a, .int i] h (zX h (some (va_rf (g j)))) := by
  refine zm_of_z G KJx4a65c_elementData_915e3 rfl rfl ?_
  refine z_go 90 rfl ?_
  refine z_get hh rfl rfl rfl rfl ?_
  refine z_go 90 rfl ?_
  refine z_oald j hd rfl hi hj ?_
  exact z_aret rfl rfl (Or.inl ⟨_, rfl⟩) ⟨rfl, rfl⟩
theorem c_get (G : zG X) {a d cap n : Nat} {mc : Int32} {g : Nat → Option Nat} {i : Int32} {b : Nat} (j : Nat) (hA : zAl X h a d mc n cap g) (hi : i.toInt = (j : Int)) (hj : j < n) (hb : g j = some b) : ZM X MJx4a65c_get_915e3 2 154 [.ref a, .int i] h (zX h (some (.ref b))) := by
  obtain ⟨h1, h2, h3, h4⟩ := hA
  have hn : (nI n).toInt = (n : Int) := i_nI (by omega)
  refine zm_of_z G KJx4a65c_get_915e3 rfl rfl ?_
  refine z_go 90 rfl ?_
  refine z_get h1 rfl rfl rfl rfl ?_
  refine z_go 90 rfl ?_
  refine z_cS (c_chk G i (nI n) (by omega) (by omega)) KJ15_checkIndex_7cf53 SJ15_checkIndex_7cf53 rfl rfl PJ15_checkIndex_7cf53 rfl rfl rfl rfl ?_
  refine z_go 90 rfl ?_
  obtain ⟨e, -⟩ | ⟨-, h2⟩ := h2
  · omega
  refine z_cV h1 (c_elem G j h1 h2 hi (by omega)) KJx4a65c_elementData_915e3 IJx4a65c_elementData_915e3 VJx4a65c_elementData_915e3 rfl rfl rfl PJx4a65c_elementData_915e3 rfl rfl rfl rfl ?_
  rw [hb]
  refine z_go 90 rfl ?_
  exact z_aret (r := some b) rfl rfl (Or.inl ⟨_, rfl⟩) ⟨rfl, rfl⟩
end ZAL
end
section
section ZGR
variable {X : zCx} {h : zHp}
theorem zD_len {d cap : Nat} {g : Nat → Option Nat} {M : zMI} {f : zFr} {pc : Nat} {L : zLo} {st : List Value} {Q : zRs → zHp → Prop} (hd : zAr X h d cap g) {p0 nx t : Nat} {lv : Int32} (hf : zlk (zFt M) pc = some (p0, .arraylength, nx, lv, t)) (kk : Z X M f h nx L (.int (nI cap) :: st) Q) : Z X M f h pc L (.ref d :: st) Q := by
  obtain ⟨rfl, hd⟩ | ⟨-, hd⟩ := hd
  · exact z_alenD hd hf kk
  · exact z_alenO hd hf kk
theorem c_initC (G : zG X) {a : Nat} : ZM X MJxa1e45_init_da8c8 1 127 [.ref a] h (zX h none) := by
  refine zm_of_z G KJxa1e45_init_da8c8 rfl rfl ?_
  refine z_go 90 rfl ?_
  refine z_obj rfl rfl zoiI zoiC rfl rfl rfl ?_
  exact z_vret rfl rfl ⟨rfl, rfl⟩
theorem c_initL (G : zG X) {a : Nat} {x y z : Value} (hh : h.1 a = some (.inr (0, [x, y, z]))) : ZM X MJxc12de_init_da8c8 2 154 [.ref a] h (zX (zset h a (.inr (0, [.int 0, y, z]))) none) := by
  refine zm_of_z G KJxc12de_init_da8c8 rfl rfl ?_
  refine z_go 90 rfl ?_
  refine z_cI (c_initC G) KJxa1e45_init_da8c8 IJxa1e45_init_da8c8 rfl rfl rfl rfl rfl PJxa1e45_init_da8c8 rfl rfl rfl rfl ?_
  refine z_go 90 rfl ?_
  refine z_put hh rfl rfl rfl rfl rfl rfl (by simp) ?_
  exact z_vret rfl rfl ⟨rfl, rfl⟩
/-- new ArrayList() on a fresh cell -/
theorem c_initA (G : zG X) {a t0 : Nat} {x y z : Value} (hD : zDef X t0) (hh : h.1 a = some (.inr (0, [x, y, z]))) : ZM X MJx4a65c_init_da8c8 3 181 [.ref a] h (zX (zset h a (.inr (0, [.int 0, .ref t0, z]))) none) := by
  refine zm_of_z G KJx4a65c_init_da8c8 rfl rfl ?_
  refine z_go 90 rfl ?_
  refine z_cI (c_initL G hh) KJxc12de_init_da8c8 IJxc12de_init_da8c8 rfl rfl rfl rfl rfl PJxc12de_init_da8c8 rfl rfl rfl rfl ?_
  refine z_go 90 rfl ?_
  refine z_gets hD rfl rfl ?_
  refine z_put (zset_at _ _ _) rfl rfl rfl rfl rfl rfl (by simp) ?_
  exact z_vret rfl rfl ⟨by rw [zset_set]; rfl, rfl⟩
theorem c_newLen (G : zG X) (cap : Nat) (h1 : 0 < cap) (h2 : cap ≤ 2000) : ZM X MJ8_newLength_cabcc 1 127 [.int (nI cap), .int 1, .int (nI cap >>> (1 &&& 31))] h (zX h (some (.int (nI (zgrow cap))))) := by
  have hs : (nI cap >>> (1 &&& 31 : Int32)).toInt = ((cap / 2 : Nat) : Int) := by
    rw [show ((1 : Int32) &&& 31) = 1 from rfl]
    have e : (nI cap >>> (1 : Int32)).toInt = (nI cap).toInt >>> 1 := by
      show (BitVec.sshiftRight (nI cap).toBitVec 1).toInt = _
      rw [BitVec.toInt_sshiftRight]
      rfl
    rw [e, i_nI (by omega), Int.shiftRight_eq_div_pow]
    omega
  refine zm_of_z G KJ8_newLength_cabcc rfl rfl ?_
  refine z_go 90 rfl ?_
  refine z_cS (c_max G _ _) KJ9_max_7cf53 SJ9_max_7cf53 rfl rfl PJ9_max_7cf53 rfl rfl rfl rfl ?_
  have hm : (nI cap + if (1 : Int32) < nI cap >>> (1 &&& 31) then nI cap >>> (1 &&& 31) else 1) = nI (zgrow cap) := by
    have h0 : zgrow cap = cap + (if 1 < cap / 2 then cap / 2 else 1) := by unfold zgrow; rw [if_neg (by omega)]
    have h9 : (1 : Int32).toInt = 1 := rfl
    have hc := i_nI (n := cap) (by omega)
    have hc2 := i_nI (n := cap + cap / 2) (by omega)
    have hc3 := i_nI (n := cap + 1) (by omega)
    apply i_ext
    rw [h0]
    split <;> rename_i c <;> rw [i_lt] at c <;> split <;> (first | omega | (rw [i_add] <;> omega))
  refine z_go 90 rfl ?_
  rw [hm]
  have hz : zgrow cap ≤ 4000 ∧ 0 < zgrow cap := by unfold zgrow; split <;> (try split) <;> omega
  refine z_br rfl rfl (fun c => ?_) (fun c => ?_) <;> (try dsimp only at c)
  · rw [show (0 : Int32) = nI 0 from rfl, n_le (by omega) (by omega)] at c
    omega
  · refine z_go 90 rfl ?_
    refine z_ldc (v := 2147483639) rfl (z_in (List.mem_of_getElem? (i := 386) (by decide +kernel))) ?_
    refine z_br rfl rfl (fun d => ?_) (fun d => ?_) <;> (try dsimp only at d)
    · rw [i_lt, i_nI (by omega)] at d
      have : (2147483639 : Int32).toInt = 2147483639 := rfl
      omega
    · refine z_go 90 rfl ?_
      exact z_iret rfl rfl ⟨rfl, rfl⟩
theorem c_copyOf3 (G : zG X) {d cap cap' mi : Nat} {g : Nat → Option Nat} (hMi : zMi X mi) (hd : h.1 d = some (zOb X cap g)) (h1 : cap ≤ cap') (h2 : cap' ≤ 4000) (hel : zEl h g 0 cap) (hlim : zLim X (znew h (zOb X cap' (fun _ => none)) cap')) : ZM X MJ7_copyOf_6403c 1 127 [.ref d, .int (nI cap'), .ref mi] h (zX (znew h (zOb X cap' (fun i => if i < cap then g i else none)) cap') (some (.ref h.2.1))) := by
  refine zm_of_z G KJ7_copyOf_6403c rfl rfl ?_
  refine z_wf fun wf _ => ?_
  refine z_go 90 rfl ?_
  refine z_ldcM hMi rfl (z_in (List.mem_of_getElem? (i := 416) (by decide +kernel))) ?_
  refine z_br rfl rfl (fun c => ?_) (fun c => ?_) <;> (try dsimp only at c)
  · exact absurd rfl c
  · refine z_go 90 rfl ?_
    refine z_newO cap' rfl rfl (i_nI (by omega)) (by omega) hlim ?_
    refine z_go 90 rfl ?_
    have hne : d ≠ h.2.1 := by have := (wf d _ hd).2; omega
    have hd' : (znew h (zOb X cap' (fun _ => none)) cap').1 d = some (zOb X cap g) := by rw [znew_ne _ _ _ hne]; exact hd
    refine z_alenO hd' rfl ?_
    refine z_go 90 rfl ?_
    refine z_cS (c_min G _ _) KJ9_min_7cf53 SJ9_min_7cf53 rfl rfl PJ9_min_7cf53 rfl rfl rfl rfl ?_
    rw [show (if nI cap' < nI cap then nI cap' else nI cap) = nI cap by rw [if_neg]; rw [n_lt (by omega) (by omega)]; omega]
    refine z_go 90 rfl ?_
    refine z_cpO 0 0 cap hd' (znew_at _ _ _) (fun i h1 h2 y hy => ?_) rfl rfl rfl rfl (i_nI (by omega)) (by omega) (by omega) rfl rfl rfl ?_
    · obtain ⟨ci, fs, q1, q2⟩ := hel i h1 h2 y hy
      exact ⟨ci, fs, by rw [znew_ne _ _ _ (by have := (wf y _ q1).2; omega)]; exact q1, q2⟩
    refine z_go 90 rfl ?_
    refine z_aret (r := some h.2.1) rfl rfl (Or.inr ⟨_, rfl⟩) ⟨?_, rfl⟩
    refine Prod.ext (funext fun q => ?_) rfl
    by_cases e : q = h.2.1
    · subst e
      rw [zset_at, znew_at]
      refine congrArg (fun g => some (zOb X cap' g)) (funext fun k => ?_)
      unfold va_cpy
      by_cases c : k < cap
      · rw [if_pos ⟨by omega, by omega⟩, if_pos c]
        exact congrArg g (by omega)
      · rw [if_neg (by omega), if_neg c]
    · rw [zset_ne _ _ e, znew_ne _ _ _ e, znew_ne _ _ _ e]
theorem c_copyOf (G : zG X) {d cap cap' : Nat} {g : Nat → Option Nat} (hd : h.1 d = some (zOb X cap g)) (h1 : cap ≤ cap') (h2 : cap' ≤ 4000) (hel : zEl h g 0 cap) (hlim : zLim X (znew h (zOb X cap' (fun _ => none)) cap')) : ZM X MJ7_copyOf_1904c 2 154 [.ref d, .int (nI cap')] h (zX (znew h (zOb X cap' (fun i => if i < cap then g i else none)) cap') (some (.ref h.2.1))) := by
  obtain ⟨mi, hMi⟩ := zMi_ex G
  refine zm_of_z G KJ7_copyOf_1904c rfl rfl ?_
  refine z_go 90 rfl ?_
  refine z_getC hMi hd rfl rfl rfl rfl rfl ?_
  refine z_cS (c_copyOf3 G hMi hd h1 h2 hel hlim) KJ7_copyOf_6403c SJ7_copyOf_6403c rfl rfl PJ7_copyOf_6403c rfl rfl rfl rfl ?_
  exact z_aret (r := some h.2.1) rfl rfl (Or.inr ⟨_, rfl⟩) ⟨rfl, rfl⟩
theorem zgrow_b {cap : Nat} (h : cap ≤ 2000) : cap < zgrow cap ∧ zgrow cap ≤ 3000 ∧ 10 ≤ zgrow cap ∨ cap < zgrow cap ∧ zgrow cap ≤ 3000 ∧ cap < 10 := by unfold zgrow; split <;> (try split) <;> omega
/-- grow(n + 1) on a full list -/
theorem c_grow1 (G : zG X) {a d cap : Nat} {mc : Int32} {g : Nat → Option Nat} (hA : zAl X h a d mc cap cap g) (hel : zEl h g 0 cap) (hlim : zLim X (znew h (zOb X (zgrow cap) (fun _ => none)) (zgrow cap))) : ZM X MJx4a65c_grow_92f84 3 181 [.ref a, .int (nI (cap + 1))] h (zX (zset (znew h (zOb X (zgrow cap) (fun i => if i < cap then g i else none)) (zgrow cap)) a (zLc mc h.2.1 cap)) (some (.ref h.2.1))) := by
  obtain ⟨q1, q2, -, q4⟩ := hA
  obtain ⟨t0, hD⟩ := zDef_ex G
  have hz : zgrow cap ≤ 3000 ∧ cap ≤ zgrow cap := by rcases zgrow_b q4 with c | c <;> omega
  refine zm_of_z G KJx4a65c_grow_92f84 rfl rfl ?_
  refine z_wf fun wf _ => ?_
  have hne : a ≠ h.2.1 := by have := (wf a _ q1).2; omega
  refine z_go 90 rfl ?_
  refine z_get q1 rfl rfl rfl rfl ?_
  refine zD_len q2 rfl ?_
  refine z_go 90 rfl ?_
  refine z_br rfl rfl (fun c => ?_) (fun c => ?_) <;> (try dsimp only at c)
  · rw [show (0 : Int32) = nI 0 from rfl, n_lt (by omega) (by omega)] at c
    obtain ⟨q2, -⟩ | ⟨q2, q3⟩ := q2
    · omega
    refine z_go 90 rfl ?_
    have e1 : nI (cap + 1) - nI cap = 1 := by
      apply i_ext
      have e2 := i_nI (n := cap + 1) (by omega)
      have e3 := i_nI (n := cap) (by omega)
      have e4 : (1 : Int32).toInt = 1 := rfl
      rw [i_sub] <;> omega
    rw [e1]
    refine z_cS (c_newLen G cap c q4) KJ8_newLength_cabcc SJ8_newLength_cabcc rfl rfl PJ8_newLength_cabcc rfl rfl rfl rfl ?_
    refine z_go 90 rfl ?_
    refine z_get q1 rfl rfl rfl rfl ?_
    refine z_go 90 rfl ?_
    refine z_cS (c_copyOf G q3 hz.2 (by omega) hel hlim) KJ7_copyOf_1904c SJ7_copyOf_1904c rfl rfl PJ7_copyOf_1904c rfl rfl rfl rfl ?_
    refine z_go 90 rfl ?_
    refine z_put (show (znew h _ _).1 a = _ by rw [znew_ne _ _ _ hne]; exact q1) rfl rfl rfl rfl rfl rfl (by simp) ?_
    exact z_aret (r := some h.2.1) rfl rfl (Or.inr ⟨_, rfl⟩) ⟨rfl, rfl⟩
  · rw [show (0 : Int32) = nI 0 from rfl, n_lt (by omega) (by omega)] at c
    have c0 : cap = 0 := by omega
    subst c0
    obtain ⟨-, q2⟩ | ⟨q2, q3⟩ := q2
    · refine z_go 90 rfl ?_
      refine z_get q1 rfl rfl rfl rfl ?_
      refine z_gets q2 rfl rfl ?_
      refine z_br rfl rfl (fun c => ?_) (fun c => ?_) <;> (try dsimp only at c)
      · refine z_go 90 rfl ?_
        refine z_cS (c_max G _ _) KJ9_max_7cf53 SJ9_max_7cf53 rfl rfl PJ9_max_7cf53 rfl rfl rfl rfl ?_
        rw [show (if (10 : Int32) < nI (0 + 1) then nI (0 + 1) else 10) = nI (zgrow 0) from rfl]
        refine z_newO (zgrow 0) rfl rfl rfl (by decide) hlim ?_
        refine z_go 90 rfl ?_
        refine z_put (show (znew h _ _).1 a = _ by rw [znew_ne _ _ _ hne]; exact q1) rfl rfl rfl rfl rfl rfl (by simp) ?_
        exact z_aret (r := some h.2.1) rfl rfl (Or.inr ⟨_, rfl⟩) ⟨rfl, rfl⟩
      · exact absurd rfl c
    · omega
theorem c_grow0 (G : zG X) {a d cap : Nat} {mc : Int32} {g : Nat → Option Nat} (hA : zAl X h a d mc cap cap g) (hel : zEl h g 0 cap) (hlim : zLim X (znew h (zOb X (zgrow cap) (fun _ => none)) (zgrow cap))) : ZM X MJx4a65c_grow_d5877 4 208 [.ref a] h (zX (zset (znew h (zOb X (zgrow cap) (fun i => if i < cap then g i else none)) (zgrow cap)) a (zLc mc h.2.1 cap)) (some (.ref h.2.1))) := by
  obtain ⟨q1, q2, q3, q4⟩ := id hA
  refine zm_of_z G KJx4a65c_grow_d5877 rfl rfl ?_
  refine z_go 90 rfl ?_
  refine z_get q1 rfl rfl rfl rfl ?_
  refine z_go 90 rfl ?_
  rw [n_succ]
  refine z_cV q1 (c_grow1 G hA hel hlim) KJx4a65c_grow_92f84 IJx4a65c_grow_92f84 VJx4a65c_grow_92f84 rfl rfl rfl PJx4a65c_grow_92f84 rfl rfl rfl rfl ?_
  exact z_aret (r := some h.2.1) rfl rfl (Or.inr ⟨_, rfl⟩) ⟨rfl, rfl⟩
end ZGR
end
section
def zPush (X : zCx) (h : zHp) (a d : Nat) (mc : Int32) (n cap : Nat) (g : Nat → Option Nat) (b : Nat) : zHp :=
  if n < cap then zset (zset h d (zOb X cap (va_up g n (some b)))) a (zLc mc d (n + 1)) else zset (znew h (zOb X (zgrow cap) (va_up (fun i => if i < cap then g i else none) n (some b))) (zgrow cap)) a (zLc mc h.2.1 (n + 1))
def zRem (g : Nat → Option Nat) (i n : Nat) : Nat → Option Nat := va_up (va_cpy g g (i + 1) i (n - 1 - i)) (n - 1) none
def zClr (X : zCx) (h : zHp) (a d : Nat) (mc : Int32) (n cap : Nat) (g : Nat → Option Nat) : zHp := if cap = 0 then zset h a (zLc mc d 0) else zset (zset h d (zOb X cap (fun j => if j < n then none else g j))) a (zLc mc d 0)
/-- what an added element may cost -/
def zLimP (X : zCx) (h : zHp) (n cap : Nat) : Prop := n = cap → zLim X (znew h (zOb X (zgrow cap) (fun _ => none)) (zgrow cap))
theorem zset_same {h : zHp} {a : Nat} {e : va_E} (q : h.1 a = some e) : zset h a e = h := by
  refine Prod.ext (funext fun b => ?_) rfl
  by_cases c : b = a
  · rw [c, zset_at, q]
  · rw [zset_ne _ _ c]
theorem zset_new (h : zHp) (e e' : va_E) (k : Nat) : zset (znew h e k) h.2.1 e' = znew h e' k := by
  refine Prod.ext (funext fun b => ?_) rfl
  by_cases c : b = h.2.1
  · rw [c, zset_at, znew_at]
  · rw [zset_ne _ _ c, znew_ne _ _ _ c, znew_ne _ _ _ c]
theorem znew_set (h : zHp) {a : Nat} (e e' : va_E) (k : Nat) (c : a ≠ h.2.1) : znew (zset h a e) e' k = zset (znew h e' k) a e := by
  refine Prod.ext (funext fun b => ?_) rfl
  show (if b = h.2.1 then some e' else (if b = a then some e else h.1 b)) = (if b = a then some e else (if b = h.2.1 then some e' else h.1 b))
  by_cases q : b = a
  · subst q; rw [if_neg c, if_pos rfl, if_pos rfl]
  · rw [if_neg q, if_neg q]
section ZPU
variable {X : zCx} {h : zHp}
theorem zAl_ne {a d : Nat} {mc : Int32} {n cap : Nat} {g : Nat → Option Nat} (h1 : h.1 a = some (zLc mc d n)) (h2 : h.1 d = some (zOb X cap g)) : a ≠ d := by
  rintro rfl
  rw [h1] at h2
  cases h2
theorem zc0 : zcast 0 "java/lang/Object" = false := by decide +kernel
theorem zOb_ne {a b d ci : Nat} {mc : Int32} {n : Nat} {fs : List Value} (h1 : h.1 a = some (zLc mc d n)) (h2 : h.1 b = some (.inr (ci, fs))) (h3 : zcast ci "java/lang/Object" = true) : b ≠ a := by
  rintro rfl
  rw [h1] at h2
  cases h2
  rw [zc0] at h3
  cases h3
theorem zEl_set {a d : Nat} {mc : Int32} {n lo m : Nat} {g : Nat → Option Nat} {c : va_E} (h1 : h.1 a = some (zLc mc d n)) (hel : zEl h g lo m) : zEl (zset h a c) g lo m := by
  intro i k1 k2 y hy
  obtain ⟨ci', fs', r1, r2⟩ := hel i k1 k2 y hy
  exact ⟨ci', fs', by rw [zset_ne _ _ (zOb_ne h1 r1 r2)]; exact r1, r2⟩
theorem zPush_set {a d : Nat} {mc : Int32} {n cap : Nat} {g : Nat → Option Nat} {b : Nat} {c : va_E} (h1 : a ≠ d ∨ cap ≤ n) (h2 : a ≠ h.2.1) : zPush X (zset h a c) a d mc n cap g b = zPush X h a d mc n cap g b := by
  unfold zPush
  split
  · rw [zset_comm _ _ _ (h1.resolve_right (by omega)), zset_set]
  · rw [znew_set _ _ _ _ h2, zset_set]
    rfl
theorem c_add3 (G : zG X) {a d n cap b ci : Nat} {mc : Int32} {g : Nat → Option Nat} {fs : List Value} (hA : zAl X h a d mc n cap g) (hob : h.1 b = some (.inr (ci, fs))) (hcs : zcast ci "java/lang/Object" = true) (hel : zEl h g 0 cap) (hlim : zLimP X h n cap) : ZM X MJx4a65c_add_72be8 5 235 [.ref a, .ref b, .ref d, .int (nI n)] h (zX (zPush X h a d mc n cap g b) none) := by
  obtain ⟨q1, q2, q3, q4⟩ := id hA
  refine zm_of_z G KJx4a65c_add_72be8 rfl rfl ?_
  refine z_wf fun wf _ => ?_
  refine z_go 90 rfl ?_
  refine zD_len q2 rfl ?_
  have hz : 0 < zgrow cap ∧ cap < zgrow cap := by rcases zgrow_b q4 with c | c <;> omega
  refine z_br rfl rfl (fun c => ?_) (fun c => ?_) <;> (try dsimp only at c)
  · rw [n_eq (by omega) (by omega)] at c
    obtain ⟨q2, -⟩ | ⟨q2, q5⟩ := q2
    · omega
    refine z_go 90 rfl ?_
    refine z_oast n q5 hob hcs rfl (i_nI (by omega)) (by omega) ?_
    refine z_go 90 rfl ?_
    have hne := zAl_ne q1 q5
    rw [n_succ]
    refine z_put (show (zset h _ _).1 a = _ by rw [zset_ne _ _ hne]; exact q1) rfl rfl rfl rfl rfl rfl (by simp) ?_
    exact z_vret rfl rfl ⟨by unfold zPush; rw [if_pos (by omega)]; rfl, rfl⟩
  · rw [n_eq (by omega) (by omega)] at c
    subst c
    have hne : a ≠ h.2.1 := by have := (wf a _ q1).2; omega
    have hnb : b ≠ h.2.1 := by have := (wf b _ hob).2; omega
    refine z_go 90 rfl ?_
    refine z_cV q1 (c_grow0 G hA hel (hlim rfl)) KJx4a65c_grow_d5877 IJx4a65c_grow_d5877 VJx4a65c_grow_d5877 rfl rfl rfl PJx4a65c_grow_d5877 rfl rfl rfl rfl ?_
    refine z_go 90 rfl ?_
    have e := zOb_ne q1 hob hcs
    refine z_oast n (show (zset _ a _).1 h.2.1 = _ by rw [zset_ne _ _ (Ne.symm hne), znew_at]) (show (zset _ a _).1 b = _ by rw [zset_ne _ _ e, znew_ne _ _ _ hnb]; exact hob) hcs rfl (i_nI (by omega)) hz.2 ?_
    refine z_go 90 rfl ?_
    rw [n_succ]
    refine z_put (show (zset (zset _ a _) _ _).1 a = _ by rw [zset_ne _ _ hne, zset_at]) rfl rfl rfl rfl rfl rfl (by simp) ?_
    exact z_vret rfl rfl ⟨by unfold zPush; rw [if_neg (by omega), zset_comm _ _ _ (Ne.symm hne), zset_set, zset_comm _ _ _ hne, zset_new]; rfl, rfl⟩
/-- add(b) -/
theorem c_add (G : zG X) {a d n cap b ci : Nat} {mc : Int32} {g : Nat → Option Nat} {fs : List Value} (hA : zAl X h a d mc n cap g) (hob : h.1 b = some (.inr (ci, fs))) (hcs : zcast ci "java/lang/Object" = true) (hel : zEl h g 0 cap) (hlim : zLimP X h n cap) : ZM X MJx4a65c_add_9ea2d 6 262 [.ref a, .ref b] h (zX (zPush X h a d (mc + 1) n cap g b) (some (.int 1))) := by
  obtain ⟨q1, q2, q3, q4⟩ := id hA
  have hba := zOb_ne q1 hob hcs
  refine zm_of_z G KJx4a65c_add_9ea2d rfl rfl ?_
  refine z_wf fun wf _ => ?_
  have hne : a ≠ h.2.1 := by have := (wf a _ q1).2; omega
  refine z_go 90 rfl ?_
  refine z_get q1 rfl rfl rfl rfl ?_
  refine z_go 90 rfl ?_
  refine z_put q1 rfl rfl rfl rfl rfl rfl (by simp) ?_
  refine z_go 90 rfl ?_
  refine z_get (zset_at _ _ _) rfl rfl rfl rfl ?_
  refine z_go 90 rfl ?_
  refine z_get (zset_at _ _ _) rfl rfl rfl rfl ?_
  have hnd : a ≠ d ∨ cap ≤ n := by
    obtain ⟨q2, -⟩ | ⟨q2, q5⟩ := q2
    · right; omega
    · exact Or.inl (zAl_ne q1 q5)
  have hA' : zAl X (zset h a (.inr (0, [.int (mc + 1), .ref d, .int (nI n)]))) a d (mc + 1) n cap g := ⟨zset_at _ _ _, by
    obtain ⟨q2, q6⟩ | ⟨q2, q5⟩ := q2
    · exact Or.inl ⟨q2, q6⟩
    · exact Or.inr ⟨q2, by rw [zset_ne _ _ (Ne.symm (zAl_ne q1 q5))]; exact q5⟩, q3, q4⟩
  refine z_cV (zset_at _ _ _) (c_add3 G hA' (by rw [zset_ne _ _ hba]; exact hob) hcs (zEl_set q1 hel) (fun e => hlim e)) KJx4a65c_add_72be8 IJx4a65c_add_72be8 VJx4a65c_add_72be8 rfl rfl rfl PJx4a65c_add_72be8 rfl rfl rfl rfl ?_
  refine z_go 90 rfl ?_
  exact z_zret rfl rfl rfl ⟨zPush_set hnd hne, rfl⟩
theorem c_fastRm (G : zG X) {a d n cap i : Nat} {mc : Int32} {g : Nat → Option Nat} (hA : zAl X h a d mc n cap g) (hi : i < n) (hel : zEl h g 0 cap) : ZM X MJx4a65c_fastRemove_b59b0 1 127 [.ref a, .ref d, .int (nI i)] h (zX (zset (zset h d (zOb X cap (zRem g i n))) a (zLc (mc + 1) d (n - 1))) none) := by
  obtain ⟨q1, q2, q3, q4⟩ := id hA
  obtain ⟨q2, -⟩ | ⟨q2, q5⟩ := q2
  · omega
  have hne := zAl_ne q1 q5
  have e1 : nI n - 1 = nI (n - 1) := by
    apply i_ext
    have e2 := i_nI (n := n - 1) (by omega)
    have e3 := i_nI (n := n) (by omega)
    have e4 : (1 : Int32).toInt = 1 := rfl
    rw [i_sub] <;> omega
  refine zm_of_z G KJx4a65c_fastRemove_b59b0 rfl rfl ?_
  refine z_go 90 rfl ?_
  refine z_get q1 rfl rfl rfl rfl ?_
  refine z_go 90 rfl ?_
  refine z_put q1 rfl rfl rfl rfl rfl rfl (by simp) ?_
  refine z_go 90 rfl ?_
  refine z_get (zset_at _ _ _) rfl rfl rfl rfl ?_
  refine z_go 90 rfl ?_
  rw [e1]
  have q6 : (zset h a (zLc (mc + 1) d n)).1 d = some (zOb X cap g) := by rw [zset_ne _ _ (Ne.symm hne)]; exact q5
  refine z_br rfl rfl (fun c => ?_) (fun c => ?_) <;> (try dsimp only at c)
  · rw [n_le (by omega) (by omega)] at c
    refine z_go 90 rfl ?_
    refine z_put (zset_at _ _ _) rfl rfl rfl rfl rfl rfl (by simp) ?_
    refine z_go 90 rfl ?_
    refine z_oastN (n - 1) (show (zset (zset h _ _) _ _).1 d = _ by rw [zset_ne _ _ (Ne.symm hne)]; exact q6) rfl (i_nI (by omega)) (by omega) ?_
    refine z_vret rfl rfl ⟨?_, rfl⟩
    rw [zset_set, zset_comm _ _ _ hne]
    have e9 : zRem g i n = va_up g (n - 1) none := by
      unfold zRem
      refine congrArg (fun z => va_up z (n - 1) none) (funext fun k => ?_)
      unfold va_cpy
      rw [if_neg (by omega)]
    rw [e9]
    rfl
  · rw [n_le (by omega) (by omega)] at c
    refine z_go 90 rfl ?_
    have e2 : nI (n - 1) - nI i = nI (n - 1 - i) := by
      apply i_ext
      have e2 := i_nI (n := n - 1) (by omega)
      have e3 := i_nI (n := i) (by omega)
      have e5 := i_nI (n := n - 1 - i) (by omega)
      rw [i_sub] <;> omega
    rw [e2, n_succ]
    refine z_cpO (i + 1) i (n - 1 - i) q6 q6 (zEl_set q1 (fun k h1 h2 y hy => hel k (by omega) (by omega) y hy)) rfl rfl (i_nI (by omega)) (i_nI (by omega)) (i_nI (by omega)) (by omega) (by omega) rfl rfl rfl ?_
    refine z_go 90 rfl ?_
    refine z_put (show (zset (zset h _ _) _ _).1 a = _ by rw [zset_ne _ _ hne, zset_at]) rfl rfl rfl rfl rfl rfl (by simp) ?_
    refine z_go 90 rfl ?_
    refine z_oastN (n - 1) (show (zset (zset (zset h _ _) _ _) _ _).1 d = _ by rw [zset_ne _ _ (Ne.symm hne), zset_at]) rfl (i_nI (by omega)) (by omega) ?_
    refine z_vret rfl rfl ⟨?_, rfl⟩
    rw [zset_comm _ _ _ hne, zset_set, zset_comm h _ _ hne, zset_set]
    rfl
theorem c_remove (G : zG X) {a d n cap i b : Nat} {mc : Int32} {g : Nat → Option Nat} (hA : zAl X h a d mc n cap g) (hi : i < n) (hel : zEl h g 0 cap) (hb : g i = some b) : ZM X MJx4a65c_remove_915e3 2 154 [.ref a, .int (nI i)] h (zX (zset (zset h d (zOb X cap (zRem g i n))) a (zLc (mc + 1) d (n - 1))) (some (.ref b))) := by
  obtain ⟨q1, q2, q3, q4⟩ := id hA
  obtain ⟨q2, -⟩ | ⟨q2, q5⟩ := q2
  · omega
  have e1 := i_nI (n := i) (by omega)
  have e2 := i_nI (n := n) (by omega)
  refine zm_of_z G KJx4a65c_remove_915e3 rfl rfl ?_
  refine z_go 90 rfl ?_
  refine z_get q1 rfl rfl rfl rfl ?_
  refine z_cS (c_chk G (nI i) (nI n) (by omega) (by omega)) KJ15_checkIndex_7cf53 SJ15_checkIndex_7cf53 rfl rfl PJ15_checkIndex_7cf53 rfl rfl rfl rfl ?_
  refine z_go 90 rfl ?_
  refine z_get q1 rfl rfl rfl rfl ?_
  refine z_go 90 rfl ?_
  refine z_oald i q5 rfl e1 (by omega) ?_
  rw [hb]
  refine z_go 90 rfl ?_
  refine z_cV q1 (c_fastRm G hA hi hel) KJx4a65c_fastRemove_b59b0 IJx4a65c_fastRemove_b59b0 VJx4a65c_fastRemove_b59b0 rfl rfl rfl PJx4a65c_fastRemove_b59b0 rfl rfl rfl rfl ?_
  refine z_go 90 rfl ?_
  exact z_aret (r := some b) rfl rfl (Or.inl ⟨_, rfl⟩) ⟨rfl, rfl⟩
theorem c_clear (G : zG X) {a d n cap : Nat} {mc : Int32} {g : Nat → Option Nat} (hA : zAl X h a d mc n cap g) : ZM X MJx4a65c_clear_da8c8 0 100 [.ref a] h (zX (zClr X h a d (mc + 1) n cap g) none) := by
  obtain ⟨q1, q2, q3, q4⟩ := id hA
  refine zm_of_z G KJx4a65c_clear_da8c8 rfl rfl ?_
  refine z_go 90 rfl ?_
  refine z_get q1 rfl rfl rfl rfl ?_
  refine z_go 90 rfl ?_
  refine z_put q1 rfl rfl rfl rfl rfl rfl (by simp) ?_
  refine z_go 90 rfl ?_
  refine z_get (zset_at _ _ _) rfl rfl rfl rfl ?_
  refine z_go 90 rfl ?_
  refine z_get (zset_at _ _ _) rfl rfl rfl rfl ?_
  refine z_go 90 rfl ?_
  refine z_put (zset_at _ _ _) rfl rfl rfl rfl rfl rfl (by simp) ?_
  refine z_go 90 rfl ?_
  obtain ⟨q2, -⟩ | ⟨q2, q5⟩ := q2
  · have : n = 0 := by omega
    subst this
    refine z_br rfl rfl (fun c => ?_) (fun c => ?_) <;> (try dsimp only at c)
    · refine z_vret rfl rfl ⟨?_, rfl⟩
      unfold zClr
      rw [if_pos q2, zset_set]
      rfl
    · exact absurd (by decide) c
  have hne := zAl_ne q1 q5
  have H : ∀ r k, r = n - k → k ≤ n → Z X MJx4a65c_clear_da8c8 (0, 100, h.2.1, h.2.2) (zset (zset h d (zOb X cap (fun j => if j < k then none else g j))) a (zLc (mc + 1) d 0)) 29 [some (.ref a), some (.ref d), some (.int (nI n)), some (.int (nI k))] [.int (nI n), .int (nI k)] (zX (zClr X h a d (mc + 1) n cap g) none) := by
    intro r
    induction r with
    | zero =>
      intro k hr hk
      have : k = n := by omega
      subst this
      refine z_br rfl rfl (fun c => ?_) (fun c => ?_) <;> (try dsimp only at c)
      · refine z_vret rfl rfl ⟨?_, rfl⟩
        unfold zClr
        rw [if_neg (by omega)]
      · rw [n_le (by omega) (by omega)] at c
        omega
    | succ r ih =>
      intro k hr hk
      refine z_br rfl rfl (fun c => ?_) (fun c => ?_) <;> (try dsimp only at c)
      · rw [n_le (by omega) (by omega)] at c
        omega
      · refine z_go 90 rfl ?_
        refine z_oastN k (show (zset (zset h _ _) _ _).1 d = _ by rw [zset_ne _ _ (Ne.symm hne), zset_at]) rfl (i_nI (by omega)) (by omega) ?_
        refine z_go 90 rfl ?_
        rw [zset_comm _ _ _ hne, zset_set, n_succ]
        have e9 : va_up (fun j => if j < k then none else g j) k none = (fun j => if j < k + 1 then none else g j) := by
          funext j
          show (if j = k then none else if j < k then none else g j) = _
          by_cases c1 : j = k
          · rw [if_pos c1, if_pos (by omega)]
          · by_cases c2 : j < k
            · rw [if_neg c1, if_pos c2, if_pos (by omega)]
            · rw [if_neg c1, if_neg c2, if_neg (by omega)]
        rw [e9]
        exact ih (k + 1) (by omega) (by omega)
  have h0 := H n 0 (by omega) (by omega)
  rw [show (fun j => if j < 0 then none else g j) = g from funext fun j => if_neg (by omega), zset_same q5] at h0
  rw [zset_set]
  exact h0
end ZPU
end
section
/-! the reference: S k i is element i of its field k (a number: i = 0) -/
abbrev zS : Type := Nat → Nat → Int32
def zV (S : zS) (k : Nat) (g : Nat → Int32) : zS := fun k2 => match Nat.beq k2 k with
  | true => g
  | false => S k2
abbrev zro (S : zS) (m : Nat) : va_E := .inr (12, [.int (S 0 0), .int (S 1 0), .int (S 2 0), .ref (m + 1), .ref (m + 2), .ref (m + 3), .ref (m + 4), .int (S 7 0), .ref (m + 5), .ref (m + 6), .ref (m + 7), .ref (m + 8), .ref (m + 9), .ref (m + 10), .int (S 14 0), .ref (m + 11), .ref (m + 12), .ref (m + 13), .ref (m + 14), .ref (m + 15), .ref (m + 16), .ref (m + 17), .ref (m + 18), .int (S 23 0), .ref (m + 19), .int (S 25 0), .ref (m + 20), .int (S 27 0), .ref (m + 21), .ref (m + 22)])
def zrc (X : zCx) (S : zS) (m : Nat) : Nat → Option va_E := fun j => match j with
  | 0 => some (zro S m)
  | 1 => some (zY X 8192 (S 3))
  | 2 => some (zI X 1024 (S 4))
  | 3 => some (zI X 40 (S 5))
  | 4 => some (zI X 40 (S 6))
  | 5 => some (zI X 24 (S 8))
  | 6 => some (zI X 24 (S 9))
  | 7 => some (zI X 24 (S 10))
  | 8 => some (zI X 96 (S 11))
  | 9 => some (zI X 96 (S 12))
  | 10 => some (zZ X 96 (S 13))
  | 11 => some (zI X 520 (S 15))
  | 12 => some (zI X 520 (S 16))
  | 13 => some (zI X 520 (S 17))
  | 14 => some (zI X 520 (S 18))
  | 15 => some (zI X 520 (S 19))
  | 16 => some (zI X 520 (S 20))
  | 17 => some (zI X 520 (S 21))
  | 18 => some (zI X 520 (S 22))
  | 19 => some (zI X 520 (S 24))
  | 20 => some (zI X 5300 (S 26))
  | 21 => some (zZ X 520 (S 28))
  | 22 => some (zY X 8192 (S 29))
  | _ => none
def zr (X : zCx) (h : zHp) (m : Nat) (S : zS) : zHp := (fun a => if m ≤ a ∧ a < m + 23 then zrc X S m (a - m) else h.1 a, h.2)
theorem zV_at (S : zS) (k : Nat) (g : Nat → Int32) : zV S k g k = g := by
  unfold zV
  rw [show Nat.beq k k = true from Nat.beq_refl k]
theorem zV_ne (S : zS) {k j : Nat} (g : Nat → Int32) (c : j ≠ k) : zV S k g j = S j := by
  unfold zV
  rw [show Nat.beq j k = false from by rw [Bool.eq_false_iff]; intro q; exact c (Nat.eq_of_beq_eq_true q)]
section ZRF
variable {X : zCx} {M : zMI} {f : zFr} {h : zHp} {pc : Nat} {L : zLo} {st : List Value} {Q : zRs → zHp → Prop} {m : Nat} {S : zS}
theorem zr_a {j : Nat} {e : va_E} (hj : Nat.ble (j + 1) 23 = true) (he : zrc X S m j = some e) : (zr X h m S).1 (m + j) = some e := by
  have := Nat.le_of_ble_eq_true hj
  show (if m ≤ m + j ∧ m + j < m + 23 then zrc X S m (m + j - m) else h.1 (m + j)) = some e
  rw [if_pos ⟨by omega, by omega⟩, show m + j - m = j by omega, he]
theorem zr_o : (zr X h m S).1 m = some (zro S m) := zr_a (j := 0) rfl rfl
theorem zr_n {a : Nat} (c : a < m ∨ m + 23 ≤ a) : (zr X h m S).1 a = h.1 a := if_neg (by omega)
theorem zr_put {S' : zS} {j : Nat} {e : va_E} (hj : Nat.ble (j + 1) 23 = true) (he : zrc X S' m j = some e) (hne : ∀ i, i < 23 → i ≠ j → zrc X S' m i = zrc X S m i) : zset (zr X h m S) (m + j) e = zr X h m S' := by
  have := Nat.le_of_ble_eq_true hj
  refine Prod.ext (funext fun a => ?_) rfl
  show (if a = m + j then some e else if m ≤ a ∧ a < m + 23 then zrc X S m (a - m) else h.1 a) = (if m ≤ a ∧ a < m + 23 then zrc X S' m (a - m) else h.1 a)
  by_cases c : a = m + j
  · subst c
    rw [if_pos rfl, if_pos ⟨by omega, by omega⟩, show m + j - m = j by omega, he]
  · rw [if_neg c]
    by_cases d : m ≤ a ∧ a < m + 23
    · rw [if_pos d, if_pos d, hne (a - m) (by omega) (by omega)]
    · rw [if_neg d, if_neg d]
theorem zr_zr {S' : zS} : zr X (zr X h m S) m S' = zr X h m S' := by
  refine Prod.ext (funext fun a => ?_) rfl
  show (if m ≤ a ∧ a < m + 23 then zrc X S' m (a - m) else (if m ≤ a ∧ a < m + 23 then zrc X S m (a - m) else h.1 a)) = _
  by_cases d : m ≤ a ∧ a < m + 23
  · rw [if_pos d]; exact (if_pos d).symm
  · rw [if_neg d, if_neg d]; exact (if_neg d).symm
theorem zr_s3 {g : Nat → Int32} : zset (zr X h m S) (m + 1) (zY X 8192 g) = zr X h m (zV S 3 g) := zr_put (j := 1) rfl rfl (by
    intro i hi hne
    match i, hi, hne with
    | 0, _, _ => rfl
    | 1, _, hne => exact absurd rfl hne
    | 2, _, _ => rfl
    | 3, _, _ => rfl
    | 4, _, _ => rfl
    | 5, _, _ => rfl
    | 6, _, _ => rfl
    | 7, _, _ => rfl
    | 8, _, _ => rfl
    | 9, _, _ => rfl
    | 10, _, _ => rfl
    | 11, _, _ => rfl
    | 12, _, _ => rfl
    | 13, _, _ => rfl
    | 14, _, _ => rfl
    | 15, _, _ => rfl
    | 16, _, _ => rfl
    | 17, _, _ => rfl
    | 18, _, _ => rfl
    | 19, _, _ => rfl
    | 20, _, _ => rfl
    | 21, _, _ => rfl
    | 22, _, _ => rfl
    | n + 23, hi, _ => omega)
theorem r_st3 {i x : Int32} {p0 nx t : Nat} {lv : Int32} (j : Nat) (hi : i.toInt = (j : Int)) (hj : j < 8192) (hf : zlk (zFt M) pc = some (p0, .bastore, nx, lv, t)) (kk : Z X M f (zr X h m (zV S 3 (upd (S 3) j x.toInt8.toInt32))) nx L st Q) : Z X M f (zr X h m S) pc L (.int x :: .int i :: .ref (m + 1) :: st) Q := z_bast j (zr_a rfl rfl) hf hi hj (by rw [zr_s3]; exact kk)
theorem r_ld3 {i : Int32} {p0 nx t : Nat} {lv : Int32} (j : Nat) (hi : i.toInt = (j : Int)) (hj : j < 8192) (hf : zlk (zFt M) pc = some (p0, .baload, nx, lv, t)) (kk : Z X M f (zr X h m S) nx L (.int (S 3 j) :: st) Q) : Z X M f (zr X h m S) pc L (.int i :: .ref (m + 1) :: st) Q := z_bald j (zr_a rfl rfl) hf hi hj kk
theorem r_lv3 {i x : Int32} {p0 nx t : Nat} {lv : Int32} (j : Nat) (e : S 3 j = x) (hi : i.toInt = (j : Int)) (hj : j < 8192) (hf : zlk (zFt M) pc = some (p0, .baload, nx, lv, t)) (kk : Z X M f (zr X h m S) nx L (.int x :: st) Q) : Z X M f (zr X h m S) pc L (.int i :: .ref (m + 1) :: st) Q := r_ld3 j hi hj hf (by rw [e]; exact kk)
theorem zr_s4 {g : Nat → Int32} : zset (zr X h m S) (m + 2) (zI X 1024 g) = zr X h m (zV S 4 g) := zr_put (j := 2) rfl rfl (by
    intro i hi hne
    match i, hi, hne with
    | 0, _, _ => rfl
    | 1, _, _ => rfl
    | 2, _, hne => exact absurd rfl hne
    | 3, _, _ => rfl
    | 4, _, _ => rfl
    | 5, _, _ => rfl
    | 6, _, _ => rfl
    | 7, _, _ => rfl
    | 8, _, _ => rfl
    | 9, _, _ => rfl
    | 10, _, _ => rfl
    | 11, _, _ => rfl
    | 12, _, _ => rfl
    | 13, _, _ => rfl
    | 14, _, _ => rfl
    | 15, _, _ => rfl
    | 16, _, _ => rfl
    | 17, _, _ => rfl
    | 18, _, _ => rfl
    | 19, _, _ => rfl
    | 20, _, _ => rfl
    | 21, _, _ => rfl
    | 22, _, _ => rfl
    | n + 23, hi, _ => omega)
theorem r_st4 {i x : Int32} {p0 nx t : Nat} {lv : Int32} (j : Nat) (hi : i.toInt = (j : Int)) (hj : j < 1024) (hf : zlk (zFt M) pc = some (p0, .iastore, nx, lv, t)) (kk : Z X M f (zr X h m (zV S 4 (upd (S 4) j x))) nx L st Q) : Z X M f (zr X h m S) pc L (.int x :: .int i :: .ref (m + 2) :: st) Q := z_iast j (zr_a rfl rfl) hf hi hj (by rw [zr_s4]; exact kk)
theorem r_ld4 {i : Int32} {p0 nx t : Nat} {lv : Int32} (j : Nat) (hi : i.toInt = (j : Int)) (hj : j < 1024) (hf : zlk (zFt M) pc = some (p0, .iaload, nx, lv, t)) (kk : Z X M f (zr X h m S) nx L (.int (S 4 j) :: st) Q) : Z X M f (zr X h m S) pc L (.int i :: .ref (m + 2) :: st) Q := z_iald j (zr_a rfl rfl) hf hi hj kk
theorem r_lv4 {i x : Int32} {p0 nx t : Nat} {lv : Int32} (j : Nat) (e : S 4 j = x) (hi : i.toInt = (j : Int)) (hj : j < 1024) (hf : zlk (zFt M) pc = some (p0, .iaload, nx, lv, t)) (kk : Z X M f (zr X h m S) nx L (.int x :: st) Q) : Z X M f (zr X h m S) pc L (.int i :: .ref (m + 2) :: st) Q := r_ld4 j hi hj hf (by rw [e]; exact kk)
theorem zr_s5 {g : Nat → Int32} : zset (zr X h m S) (m + 3) (zI X 40 g) = zr X h m (zV S 5 g) := zr_put (j := 3) rfl rfl (by
    intro i hi hne
    match i, hi, hne with
    | 0, _, _ => rfl
    | 1, _, _ => rfl
    | 2, _, _ => rfl
    | 3, _, hne => exact absurd rfl hne
    | 4, _, _ => rfl
    | 5, _, _ => rfl
    | 6, _, _ => rfl
    | 7, _, _ => rfl
    | 8, _, _ => rfl
    | 9, _, _ => rfl
    | 10, _, _ => rfl
    | 11, _, _ => rfl
    | 12, _, _ => rfl
    | 13, _, _ => rfl
    | 14, _, _ => rfl
    | 15, _, _ => rfl
    | 16, _, _ => rfl
    | 17, _, _ => rfl
    | 18, _, _ => rfl
    | 19, _, _ => rfl
    | 20, _, _ => rfl
    | 21, _, _ => rfl
    | 22, _, _ => rfl
    | n + 23, hi, _ => omega)
theorem r_st5 {i x : Int32} {p0 nx t : Nat} {lv : Int32} (j : Nat) (hi : i.toInt = (j : Int)) (hj : j < 40) (hf : zlk (zFt M) pc = some (p0, .iastore, nx, lv, t)) (kk : Z X M f (zr X h m (zV S 5 (upd (S 5) j x))) nx L st Q) : Z X M f (zr X h m S) pc L (.int x :: .int i :: .ref (m + 3) :: st) Q := z_iast j (zr_a rfl rfl) hf hi hj (by rw [zr_s5]; exact kk)
theorem r_ld5 {i : Int32} {p0 nx t : Nat} {lv : Int32} (j : Nat) (hi : i.toInt = (j : Int)) (hj : j < 40) (hf : zlk (zFt M) pc = some (p0, .iaload, nx, lv, t)) (kk : Z X M f (zr X h m S) nx L (.int (S 5 j) :: st) Q) : Z X M f (zr X h m S) pc L (.int i :: .ref (m + 3) :: st) Q := z_iald j (zr_a rfl rfl) hf hi hj kk
theorem r_lv5 {i x : Int32} {p0 nx t : Nat} {lv : Int32} (j : Nat) (e : S 5 j = x) (hi : i.toInt = (j : Int)) (hj : j < 40) (hf : zlk (zFt M) pc = some (p0, .iaload, nx, lv, t)) (kk : Z X M f (zr X h m S) nx L (.int x :: st) Q) : Z X M f (zr X h m S) pc L (.int i :: .ref (m + 3) :: st) Q := r_ld5 j hi hj hf (by rw [e]; exact kk)
theorem zr_s6 {g : Nat → Int32} : zset (zr X h m S) (m + 4) (zI X 40 g) = zr X h m (zV S 6 g) := zr_put (j := 4) rfl rfl (by
    intro i hi hne
    match i, hi, hne with
    | 0, _, _ => rfl
    | 1, _, _ => rfl
    | 2, _, _ => rfl
    | 3, _, _ => rfl
    | 4, _, hne => exact absurd rfl hne
    | 5, _, _ => rfl
    | 6, _, _ => rfl
    | 7, _, _ => rfl
    | 8, _, _ => rfl
    | 9, _, _ => rfl
    | 10, _, _ => rfl
    | 11, _, _ => rfl
    | 12, _, _ => rfl
    | 13, _, _ => rfl
    | 14, _, _ => rfl
    | 15, _, _ => rfl
    | 16, _, _ => rfl
    | 17, _, _ => rfl
    | 18, _, _ => rfl
    | 19, _, _ => rfl
    | 20, _, _ => rfl
    | 21, _, _ => rfl
    | 22, _, _ => rfl
    | n + 23, hi, _ => omega)
theorem r_st6 {i x : Int32} {p0 nx t : Nat} {lv : Int32} (j : Nat) (hi : i.toInt = (j : Int)) (hj : j < 40) (hf : zlk (zFt M) pc = some (p0, .iastore, nx, lv, t)) (kk : Z X M f (zr X h m (zV S 6 (upd (S 6) j x))) nx L st Q) : Z X M f (zr X h m S) pc L (.int x :: .int i :: .ref (m + 4) :: st) Q := z_iast j (zr_a rfl rfl) hf hi hj (by rw [zr_s6]; exact kk)
theorem r_ld6 {i : Int32} {p0 nx t : Nat} {lv : Int32} (j : Nat) (hi : i.toInt = (j : Int)) (hj : j < 40) (hf : zlk (zFt M) pc = some (p0, .iaload, nx, lv, t)) (kk : Z X M f (zr X h m S) nx L (.int (S 6 j) :: st) Q) : Z X M f (zr X h m S) pc L (.int i :: .ref (m + 4) :: st) Q := z_iald j (zr_a rfl rfl) hf hi hj kk
theorem r_lv6 {i x : Int32} {p0 nx t : Nat} {lv : Int32} (j : Nat) (e : S 6 j = x) (hi : i.toInt = (j : Int)) (hj : j < 40) (hf : zlk (zFt M) pc = some (p0, .iaload, nx, lv, t)) (kk : Z X M f (zr X h m S) nx L (.int x :: st) Q) : Z X M f (zr X h m S) pc L (.int i :: .ref (m + 4) :: st) Q := r_ld6 j hi hj hf (by rw [e]; exact kk)
theorem zr_s8 {g : Nat → Int32} : zset (zr X h m S) (m + 5) (zI X 24 g) = zr X h m (zV S 8 g) := zr_put (j := 5) rfl rfl (by
    intro i hi hne
    match i, hi, hne with
    | 0, _, _ => rfl
    | 1, _, _ => rfl
    | 2, _, _ => rfl
    | 3, _, _ => rfl
    | 4, _, _ => rfl
    | 5, _, hne => exact absurd rfl hne
    | 6, _, _ => rfl
    | 7, _, _ => rfl
    | 8, _, _ => rfl
    | 9, _, _ => rfl
    | 10, _, _ => rfl
    | 11, _, _ => rfl
    | 12, _, _ => rfl
    | 13, _, _ => rfl
    | 14, _, _ => rfl
    | 15, _, _ => rfl
    | 16, _, _ => rfl
    | 17, _, _ => rfl
    | 18, _, _ => rfl
    | 19, _, _ => rfl
    | 20, _, _ => rfl
    | 21, _, _ => rfl
    | 22, _, _ => rfl
    | n + 23, hi, _ => omega)
theorem r_st8 {i x : Int32} {p0 nx t : Nat} {lv : Int32} (j : Nat) (hi : i.toInt = (j : Int)) (hj : j < 24) (hf : zlk (zFt M) pc = some (p0, .iastore, nx, lv, t)) (kk : Z X M f (zr X h m (zV S 8 (upd (S 8) j x))) nx L st Q) : Z X M f (zr X h m S) pc L (.int x :: .int i :: .ref (m + 5) :: st) Q := z_iast j (zr_a rfl rfl) hf hi hj (by rw [zr_s8]; exact kk)
theorem r_ld8 {i : Int32} {p0 nx t : Nat} {lv : Int32} (j : Nat) (hi : i.toInt = (j : Int)) (hj : j < 24) (hf : zlk (zFt M) pc = some (p0, .iaload, nx, lv, t)) (kk : Z X M f (zr X h m S) nx L (.int (S 8 j) :: st) Q) : Z X M f (zr X h m S) pc L (.int i :: .ref (m + 5) :: st) Q := z_iald j (zr_a rfl rfl) hf hi hj kk
theorem r_lv8 {i x : Int32} {p0 nx t : Nat} {lv : Int32} (j : Nat) (e : S 8 j = x) (hi : i.toInt = (j : Int)) (hj : j < 24) (hf : zlk (zFt M) pc = some (p0, .iaload, nx, lv, t)) (kk : Z X M f (zr X h m S) nx L (.int x :: st) Q) : Z X M f (zr X h m S) pc L (.int i :: .ref (m + 5) :: st) Q := r_ld8 j hi hj hf (by rw [e]; exact kk)
theorem zr_s9 {g : Nat → Int32} : zset (zr X h m S) (m + 6) (zI X 24 g) = zr X h m (zV S 9 g) := zr_put (j := 6) rfl rfl (by
    intro i hi hne
    match i, hi, hne with
    | 0, _, _ => rfl
    | 1, _, _ => rfl
    | 2, _, _ => rfl
    | 3, _, _ => rfl
    | 4, _, _ => rfl
    | 5, _, _ => rfl
    | 6, _, hne => exact absurd rfl hne
    | 7, _, _ => rfl
    | 8, _, _ => rfl
    | 9, _, _ => rfl
    | 10, _, _ => rfl
    | 11, _, _ => rfl
    | 12, _, _ => rfl
    | 13, _, _ => rfl
    | 14, _, _ => rfl
    | 15, _, _ => rfl
    | 16, _, _ => rfl
    | 17, _, _ => rfl
    | 18, _, _ => rfl
    | 19, _, _ => rfl
    | 20, _, _ => rfl
    | 21, _, _ => rfl
    | 22, _, _ => rfl
    | n + 23, hi, _ => omega)
theorem r_st9 {i x : Int32} {p0 nx t : Nat} {lv : Int32} (j : Nat) (hi : i.toInt = (j : Int)) (hj : j < 24) (hf : zlk (zFt M) pc = some (p0, .iastore, nx, lv, t)) (kk : Z X M f (zr X h m (zV S 9 (upd (S 9) j x))) nx L st Q) : Z X M f (zr X h m S) pc L (.int x :: .int i :: .ref (m + 6) :: st) Q := z_iast j (zr_a rfl rfl) hf hi hj (by rw [zr_s9]; exact kk)
theorem r_ld9 {i : Int32} {p0 nx t : Nat} {lv : Int32} (j : Nat) (hi : i.toInt = (j : Int)) (hj : j < 24) (hf : zlk (zFt M) pc = some (p0, .iaload, nx, lv, t)) (kk : Z X M f (zr X h m S) nx L (.int (S 9 j) :: st) Q) : Z X M f (zr X h m S) pc L (.int i :: .ref (m + 6) :: st) Q := z_iald j (zr_a rfl rfl) hf hi hj kk
theorem r_lv9 {i x : Int32} {p0 nx t : Nat} {lv : Int32} (j : Nat) (e : S 9 j = x) (hi : i.toInt = (j : Int)) (hj : j < 24) (hf : zlk (zFt M) pc = some (p0, .iaload, nx, lv, t)) (kk : Z X M f (zr X h m S) nx L (.int x :: st) Q) : Z X M f (zr X h m S) pc L (.int i :: .ref (m + 6) :: st) Q := r_ld9 j hi hj hf (by rw [e]; exact kk)
theorem zr_s10 {g : Nat → Int32} : zset (zr X h m S) (m + 7) (zI X 24 g) = zr X h m (zV S 10 g) := zr_put (j := 7) rfl rfl (by
    intro i hi hne
    match i, hi, hne with
    | 0, _, _ => rfl
    | 1, _, _ => rfl
    | 2, _, _ => rfl
    | 3, _, _ => rfl
    | 4, _, _ => rfl
    | 5, _, _ => rfl
    | 6, _, _ => rfl
    | 7, _, hne => exact absurd rfl hne
    | 8, _, _ => rfl
    | 9, _, _ => rfl
    | 10, _, _ => rfl
    | 11, _, _ => rfl
    | 12, _, _ => rfl
    | 13, _, _ => rfl
    | 14, _, _ => rfl
    | 15, _, _ => rfl
    | 16, _, _ => rfl
    | 17, _, _ => rfl
    | 18, _, _ => rfl
    | 19, _, _ => rfl
    | 20, _, _ => rfl
    | 21, _, _ => rfl
    | 22, _, _ => rfl
    | n + 23, hi, _ => omega)
theorem r_st10 {i x : Int32} {p0 nx t : Nat} {lv : Int32} (j : Nat) (hi : i.toInt = (j : Int)) (hj : j < 24) (hf : zlk (zFt M) pc = some (p0, .iastore, nx, lv, t)) (kk : Z X M f (zr X h m (zV S 10 (upd (S 10) j x))) nx L st Q) : Z X M f (zr X h m S) pc L (.int x :: .int i :: .ref (m + 7) :: st) Q := z_iast j (zr_a rfl rfl) hf hi hj (by rw [zr_s10]; exact kk)
theorem r_ld10 {i : Int32} {p0 nx t : Nat} {lv : Int32} (j : Nat) (hi : i.toInt = (j : Int)) (hj : j < 24) (hf : zlk (zFt M) pc = some (p0, .iaload, nx, lv, t)) (kk : Z X M f (zr X h m S) nx L (.int (S 10 j) :: st) Q) : Z X M f (zr X h m S) pc L (.int i :: .ref (m + 7) :: st) Q := z_iald j (zr_a rfl rfl) hf hi hj kk
theorem r_lv10 {i x : Int32} {p0 nx t : Nat} {lv : Int32} (j : Nat) (e : S 10 j = x) (hi : i.toInt = (j : Int)) (hj : j < 24) (hf : zlk (zFt M) pc = some (p0, .iaload, nx, lv, t)) (kk : Z X M f (zr X h m S) nx L (.int x :: st) Q) : Z X M f (zr X h m S) pc L (.int i :: .ref (m + 7) :: st) Q := r_ld10 j hi hj hf (by rw [e]; exact kk)
theorem zr_s11 {g : Nat → Int32} : zset (zr X h m S) (m + 8) (zI X 96 g) = zr X h m (zV S 11 g) := zr_put (j := 8) rfl rfl (by
    intro i hi hne
    match i, hi, hne with
    | 0, _, _ => rfl
    | 1, _, _ => rfl
    | 2, _, _ => rfl
    | 3, _, _ => rfl
    | 4, _, _ => rfl
    | 5, _, _ => rfl
    | 6, _, _ => rfl
    | 7, _, _ => rfl
    | 8, _, hne => exact absurd rfl hne
    | 9, _, _ => rfl
    | 10, _, _ => rfl
    | 11, _, _ => rfl
    | 12, _, _ => rfl
    | 13, _, _ => rfl
    | 14, _, _ => rfl
    | 15, _, _ => rfl
    | 16, _, _ => rfl
    | 17, _, _ => rfl
    | 18, _, _ => rfl
    | 19, _, _ => rfl
    | 20, _, _ => rfl
    | 21, _, _ => rfl
    | 22, _, _ => rfl
    | n + 23, hi, _ => omega)
theorem r_st11 {i x : Int32} {p0 nx t : Nat} {lv : Int32} (j : Nat) (hi : i.toInt = (j : Int)) (hj : j < 96) (hf : zlk (zFt M) pc = some (p0, .iastore, nx, lv, t)) (kk : Z X M f (zr X h m (zV S 11 (upd (S 11) j x))) nx L st Q) : Z X M f (zr X h m S) pc L (.int x :: .int i :: .ref (m + 8) :: st) Q := z_iast j (zr_a rfl rfl) hf hi hj (by rw [zr_s11]; exact kk)
theorem r_ld11 {i : Int32} {p0 nx t : Nat} {lv : Int32} (j : Nat) (hi : i.toInt = (j : Int)) (hj : j < 96) (hf : zlk (zFt M) pc = some (p0, .iaload, nx, lv, t)) (kk : Z X M f (zr X h m S) nx L (.int (S 11 j) :: st) Q) : Z X M f (zr X h m S) pc L (.int i :: .ref (m + 8) :: st) Q := z_iald j (zr_a rfl rfl) hf hi hj kk
theorem r_lv11 {i x : Int32} {p0 nx t : Nat} {lv : Int32} (j : Nat) (e : S 11 j = x) (hi : i.toInt = (j : Int)) (hj : j < 96) (hf : zlk (zFt M) pc = some (p0, .iaload, nx, lv, t)) (kk : Z X M f (zr X h m S) nx L (.int x :: st) Q) : Z X M f (zr X h m S) pc L (.int i :: .ref (m + 8) :: st) Q := r_ld11 j hi hj hf (by rw [e]; exact kk)
theorem zr_s12 {g : Nat → Int32} : zset (zr X h m S) (m + 9) (zI X 96 g) = zr X h m (zV S 12 g) := zr_put (j := 9) rfl rfl (by
    intro i hi hne
    match i, hi, hne with
    | 0, _, _ => rfl
    | 1, _, _ => rfl
    | 2, _, _ => rfl
    | 3, _, _ => rfl
    | 4, _, _ => rfl
    | 5, _, _ => rfl
    | 6, _, _ => rfl
    | 7, _, _ => rfl
    | 8, _, _ => rfl
    | 9, _, hne => exact absurd rfl hne
    | 10, _, _ => rfl
    | 11, _, _ => rfl
    | 12, _, _ => rfl
    | 13, _, _ => rfl
    | 14, _, _ => rfl
    | 15, _, _ => rfl
    | 16, _, _ => rfl
    | 17, _, _ => rfl
    | 18, _, _ => rfl
    | 19, _, _ => rfl
    | 20, _, _ => rfl
    | 21, _, _ => rfl
    | 22, _, _ => rfl
    | n + 23, hi, _ => omega)
theorem r_st12 {i x : Int32} {p0 nx t : Nat} {lv : Int32} (j : Nat) (hi : i.toInt = (j : Int)) (hj : j < 96) (hf : zlk (zFt M) pc = some (p0, .iastore, nx, lv, t)) (kk : Z X M f (zr X h m (zV S 12 (upd (S 12) j x))) nx L st Q) : Z X M f (zr X h m S) pc L (.int x :: .int i :: .ref (m + 9) :: st) Q := z_iast j (zr_a rfl rfl) hf hi hj (by rw [zr_s12]; exact kk)
theorem r_ld12 {i : Int32} {p0 nx t : Nat} {lv : Int32} (j : Nat) (hi : i.toInt = (j : Int)) (hj : j < 96) (hf : zlk (zFt M) pc = some (p0, .iaload, nx, lv, t)) (kk : Z X M f (zr X h m S) nx L (.int (S 12 j) :: st) Q) : Z X M f (zr X h m S) pc L (.int i :: .ref (m + 9) :: st) Q := z_iald j (zr_a rfl rfl) hf hi hj kk
theorem r_lv12 {i x : Int32} {p0 nx t : Nat} {lv : Int32} (j : Nat) (e : S 12 j = x) (hi : i.toInt = (j : Int)) (hj : j < 96) (hf : zlk (zFt M) pc = some (p0, .iaload, nx, lv, t)) (kk : Z X M f (zr X h m S) nx L (.int x :: st) Q) : Z X M f (zr X h m S) pc L (.int i :: .ref (m + 9) :: st) Q := r_ld12 j hi hj hf (by rw [e]; exact kk)
theorem zr_s13 {g : Nat → Int32} : zset (zr X h m S) (m + 10) (zZ X 96 g) = zr X h m (zV S 13 g) := zr_put (j := 10) rfl rfl (by
    intro i hi hne
    match i, hi, hne with
    | 0, _, _ => rfl
    | 1, _, _ => rfl
    | 2, _, _ => rfl
    | 3, _, _ => rfl
    | 4, _, _ => rfl
    | 5, _, _ => rfl
    | 6, _, _ => rfl
    | 7, _, _ => rfl
    | 8, _, _ => rfl
    | 9, _, _ => rfl
    | 10, _, hne => exact absurd rfl hne
    | 11, _, _ => rfl
    | 12, _, _ => rfl
    | 13, _, _ => rfl
    | 14, _, _ => rfl
    | 15, _, _ => rfl
    | 16, _, _ => rfl
    | 17, _, _ => rfl
    | 18, _, _ => rfl
    | 19, _, _ => rfl
    | 20, _, _ => rfl
    | 21, _, _ => rfl
    | 22, _, _ => rfl
    | n + 23, hi, _ => omega)
theorem r_st13 {i x : Int32} {p0 nx t : Nat} {lv : Int32} (j : Nat) (hi : i.toInt = (j : Int)) (hj : j < 96) (hf : zlk (zFt M) pc = some (p0, .bastore, nx, lv, t)) (kk : Z X M f (zr X h m (zV S 13 (upd (S 13) j (vp_nar .boolean x)))) nx L st Q) : Z X M f (zr X h m S) pc L (.int x :: .int i :: .ref (m + 10) :: st) Q := z_zast j (zr_a rfl rfl) hf hi hj (by rw [zr_s13]; exact kk)
theorem r_ld13 {i : Int32} {p0 nx t : Nat} {lv : Int32} (j : Nat) (hi : i.toInt = (j : Int)) (hj : j < 96) (hf : zlk (zFt M) pc = some (p0, .baload, nx, lv, t)) (kk : Z X M f (zr X h m S) nx L (.int (S 13 j) :: st) Q) : Z X M f (zr X h m S) pc L (.int i :: .ref (m + 10) :: st) Q := z_zald j (zr_a rfl rfl) hf hi hj kk
theorem r_lv13 {i x : Int32} {p0 nx t : Nat} {lv : Int32} (j : Nat) (e : S 13 j = x) (hi : i.toInt = (j : Int)) (hj : j < 96) (hf : zlk (zFt M) pc = some (p0, .baload, nx, lv, t)) (kk : Z X M f (zr X h m S) nx L (.int x :: st) Q) : Z X M f (zr X h m S) pc L (.int i :: .ref (m + 10) :: st) Q := r_ld13 j hi hj hf (by rw [e]; exact kk)
theorem zr_s15 {g : Nat → Int32} : zset (zr X h m S) (m + 11) (zI X 520 g) = zr X h m (zV S 15 g) := zr_put (j := 11) rfl rfl (by
    intro i hi hne
    match i, hi, hne with
    | 0, _, _ => rfl
    | 1, _, _ => rfl
    | 2, _, _ => rfl
    | 3, _, _ => rfl
    | 4, _, _ => rfl
    | 5, _, _ => rfl
    | 6, _, _ => rfl
    | 7, _, _ => rfl
    | 8, _, _ => rfl
    | 9, _, _ => rfl
    | 10, _, _ => rfl
    | 11, _, hne => exact absurd rfl hne
    | 12, _, _ => rfl
    | 13, _, _ => rfl
    | 14, _, _ => rfl
    | 15, _, _ => rfl
    | 16, _, _ => rfl
    | 17, _, _ => rfl
    | 18, _, _ => rfl
    | 19, _, _ => rfl
    | 20, _, _ => rfl
    | 21, _, _ => rfl
    | 22, _, _ => rfl
    | n + 23, hi, _ => omega)
theorem r_st15 {i x : Int32} {p0 nx t : Nat} {lv : Int32} (j : Nat) (hi : i.toInt = (j : Int)) (hj : j < 520) (hf : zlk (zFt M) pc = some (p0, .iastore, nx, lv, t)) (kk : Z X M f (zr X h m (zV S 15 (upd (S 15) j x))) nx L st Q) : Z X M f (zr X h m S) pc L (.int x :: .int i :: .ref (m + 11) :: st) Q := z_iast j (zr_a rfl rfl) hf hi hj (by rw [zr_s15]; exact kk)
theorem r_ld15 {i : Int32} {p0 nx t : Nat} {lv : Int32} (j : Nat) (hi : i.toInt = (j : Int)) (hj : j < 520) (hf : zlk (zFt M) pc = some (p0, .iaload, nx, lv, t)) (kk : Z X M f (zr X h m S) nx L (.int (S 15 j) :: st) Q) : Z X M f (zr X h m S) pc L (.int i :: .ref (m + 11) :: st) Q := z_iald j (zr_a rfl rfl) hf hi hj kk
theorem r_lv15 {i x : Int32} {p0 nx t : Nat} {lv : Int32} (j : Nat) (e : S 15 j = x) (hi : i.toInt = (j : Int)) (hj : j < 520) (hf : zlk (zFt M) pc = some (p0, .iaload, nx, lv, t)) (kk : Z X M f (zr X h m S) nx L (.int x :: st) Q) : Z X M f (zr X h m S) pc L (.int i :: .ref (m + 11) :: st) Q := r_ld15 j hi hj hf (by rw [e]; exact kk)
theorem zr_s16 {g : Nat → Int32} : zset (zr X h m S) (m + 12) (zI X 520 g) = zr X h m (zV S 16 g) := zr_put (j := 12) rfl rfl (by
    intro i hi hne
    match i, hi, hne with
    | 0, _, _ => rfl
    | 1, _, _ => rfl
    | 2, _, _ => rfl
    | 3, _, _ => rfl
    | 4, _, _ => rfl
    | 5, _, _ => rfl
    | 6, _, _ => rfl
    | 7, _, _ => rfl
    | 8, _, _ => rfl
    | 9, _, _ => rfl
    | 10, _, _ => rfl
    | 11, _, _ => rfl
    | 12, _, hne => exact absurd rfl hne
    | 13, _, _ => rfl
    | 14, _, _ => rfl
    | 15, _, _ => rfl
    | 16, _, _ => rfl
    | 17, _, _ => rfl
    | 18, _, _ => rfl
    | 19, _, _ => rfl
    | 20, _, _ => rfl
    | 21, _, _ => rfl
    | 22, _, _ => rfl
    | n + 23, hi, _ => omega)
theorem r_st16 {i x : Int32} {p0 nx t : Nat} {lv : Int32} (j : Nat) (hi : i.toInt = (j : Int)) (hj : j < 520) (hf : zlk (zFt M) pc = some (p0, .iastore, nx, lv, t)) (kk : Z X M f (zr X h m (zV S 16 (upd (S 16) j x))) nx L st Q) : Z X M f (zr X h m S) pc L (.int x :: .int i :: .ref (m + 12) :: st) Q := z_iast j (zr_a rfl rfl) hf hi hj (by rw [zr_s16]; exact kk)
theorem r_ld16 {i : Int32} {p0 nx t : Nat} {lv : Int32} (j : Nat) (hi : i.toInt = (j : Int)) (hj : j < 520) (hf : zlk (zFt M) pc = some (p0, .iaload, nx, lv, t)) (kk : Z X M f (zr X h m S) nx L (.int (S 16 j) :: st) Q) : Z X M f (zr X h m S) pc L (.int i :: .ref (m + 12) :: st) Q := z_iald j (zr_a rfl rfl) hf hi hj kk
theorem r_lv16 {i x : Int32} {p0 nx t : Nat} {lv : Int32} (j : Nat) (e : S 16 j = x) (hi : i.toInt = (j : Int)) (hj : j < 520) (hf : zlk (zFt M) pc = some (p0, .iaload, nx, lv, t)) (kk : Z X M f (zr X h m S) nx L (.int x :: st) Q) : Z X M f (zr X h m S) pc L (.int i :: .ref (m + 12) :: st) Q := r_ld16 j hi hj hf (by rw [e]; exact kk)
theorem zr_s17 {g : Nat → Int32} : zset (zr X h m S) (m + 13) (zI X 520 g) = zr X h m (zV S 17 g) := zr_put (j := 13) rfl rfl (by
    intro i hi hne
    match i, hi, hne with
    | 0, _, _ => rfl
    | 1, _, _ => rfl
    | 2, _, _ => rfl
    | 3, _, _ => rfl
    | 4, _, _ => rfl
    | 5, _, _ => rfl
    | 6, _, _ => rfl
    | 7, _, _ => rfl
    | 8, _, _ => rfl
    | 9, _, _ => rfl
    | 10, _, _ => rfl
    | 11, _, _ => rfl
    | 12, _, _ => rfl
    | 13, _, hne => exact absurd rfl hne
    | 14, _, _ => rfl
    | 15, _, _ => rfl
    | 16, _, _ => rfl
    | 17, _, _ => rfl
    | 18, _, _ => rfl
    | 19, _, _ => rfl
    | 20, _, _ => rfl
    | 21, _, _ => rfl
    | 22, _, _ => rfl
    | n + 23, hi, _ => omega)
theorem r_st17 {i x : Int32} {p0 nx t : Nat} {lv : Int32} (j : Nat) (hi : i.toInt = (j : Int)) (hj : j < 520) (hf : zlk (zFt M) pc = some (p0, .iastore, nx, lv, t)) (kk : Z X M f (zr X h m (zV S 17 (upd (S 17) j x))) nx L st Q) : Z X M f (zr X h m S) pc L (.int x :: .int i :: .ref (m + 13) :: st) Q := z_iast j (zr_a rfl rfl) hf hi hj (by rw [zr_s17]; exact kk)
theorem r_ld17 {i : Int32} {p0 nx t : Nat} {lv : Int32} (j : Nat) (hi : i.toInt = (j : Int)) (hj : j < 520) (hf : zlk (zFt M) pc = some (p0, .iaload, nx, lv, t)) (kk : Z X M f (zr X h m S) nx L (.int (S 17 j) :: st) Q) : Z X M f (zr X h m S) pc L (.int i :: .ref (m + 13) :: st) Q := z_iald j (zr_a rfl rfl) hf hi hj kk
theorem r_lv17 {i x : Int32} {p0 nx t : Nat} {lv : Int32} (j : Nat) (e : S 17 j = x) (hi : i.toInt = (j : Int)) (hj : j < 520) (hf : zlk (zFt M) pc = some (p0, .iaload, nx, lv, t)) (kk : Z X M f (zr X h m S) nx L (.int x :: st) Q) : Z X M f (zr X h m S) pc L (.int i :: .ref (m + 13) :: st) Q := r_ld17 j hi hj hf (by rw [e]; exact kk)
theorem zr_s18 {g : Nat → Int32} : zset (zr X h m S) (m + 14) (zI X 520 g) = zr X h m (zV S 18 g) := zr_put (j := 14) rfl rfl (by
    intro i hi hne
    match i, hi, hne with
    | 0, _, _ => rfl
    | 1, _, _ => rfl
    | 2, _, _ => rfl
    | 3, _, _ => rfl
    | 4, _, _ => rfl
    | 5, _, _ => rfl
    | 6, _, _ => rfl
    | 7, _, _ => rfl
    | 8, _, _ => rfl
    | 9, _, _ => rfl
    | 10, _, _ => rfl
    | 11, _, _ => rfl
    | 12, _, _ => rfl
    | 13, _, _ => rfl
    | 14, _, hne => exact absurd rfl hne
    | 15, _, _ => rfl
    | 16, _, _ => rfl
    | 17, _, _ => rfl
    | 18, _, _ => rfl
    | 19, _, _ => rfl
    | 20, _, _ => rfl
    | 21, _, _ => rfl
    | 22, _, _ => rfl
    | n + 23, hi, _ => omega)
theorem r_st18 {i x : Int32} {p0 nx t : Nat} {lv : Int32} (j : Nat) (hi : i.toInt = (j : Int)) (hj : j < 520) (hf : zlk (zFt M) pc = some (p0, .iastore, nx, lv, t)) (kk : Z X M f (zr X h m (zV S 18 (upd (S 18) j x))) nx L st Q) : Z X M f (zr X h m S) pc L (.int x :: .int i :: .ref (m + 14) :: st) Q := z_iast j (zr_a rfl rfl) hf hi hj (by rw [zr_s18]; exact kk)
theorem r_ld18 {i : Int32} {p0 nx t : Nat} {lv : Int32} (j : Nat) (hi : i.toInt = (j : Int)) (hj : j < 520) (hf : zlk (zFt M) pc = some (p0, .iaload, nx, lv, t)) (kk : Z X M f (zr X h m S) nx L (.int (S 18 j) :: st) Q) : Z X M f (zr X h m S) pc L (.int i :: .ref (m + 14) :: st) Q := z_iald j (zr_a rfl rfl) hf hi hj kk
theorem r_lv18 {i x : Int32} {p0 nx t : Nat} {lv : Int32} (j : Nat) (e : S 18 j = x) (hi : i.toInt = (j : Int)) (hj : j < 520) (hf : zlk (zFt M) pc = some (p0, .iaload, nx, lv, t)) (kk : Z X M f (zr X h m S) nx L (.int x :: st) Q) : Z X M f (zr X h m S) pc L (.int i :: .ref (m + 14) :: st) Q := r_ld18 j hi hj hf (by rw [e]; exact kk)
theorem zr_s19 {g : Nat → Int32} : zset (zr X h m S) (m + 15) (zI X 520 g) = zr X h m (zV S 19 g) := zr_put (j := 15) rfl rfl (by
    intro i hi hne
    match i, hi, hne with
    | 0, _, _ => rfl
    | 1, _, _ => rfl
    | 2, _, _ => rfl
    | 3, _, _ => rfl
    | 4, _, _ => rfl
    | 5, _, _ => rfl
    | 6, _, _ => rfl
    | 7, _, _ => rfl
    | 8, _, _ => rfl
    | 9, _, _ => rfl
    | 10, _, _ => rfl
    | 11, _, _ => rfl
    | 12, _, _ => rfl
    | 13, _, _ => rfl
    | 14, _, _ => rfl
    | 15, _, hne => exact absurd rfl hne
    | 16, _, _ => rfl
    | 17, _, _ => rfl
    | 18, _, _ => rfl
    | 19, _, _ => rfl
    | 20, _, _ => rfl
    | 21, _, _ => rfl
    | 22, _, _ => rfl
    | n + 23, hi, _ => omega)
theorem r_st19 {i x : Int32} {p0 nx t : Nat} {lv : Int32} (j : Nat) (hi : i.toInt = (j : Int)) (hj : j < 520) (hf : zlk (zFt M) pc = some (p0, .iastore, nx, lv, t)) (kk : Z X M f (zr X h m (zV S 19 (upd (S 19) j x))) nx L st Q) : Z X M f (zr X h m S) pc L (.int x :: .int i :: .ref (m + 15) :: st) Q := z_iast j (zr_a rfl rfl) hf hi hj (by rw [zr_s19]; exact kk)
theorem r_ld19 {i : Int32} {p0 nx t : Nat} {lv : Int32} (j : Nat) (hi : i.toInt = (j : Int)) (hj : j < 520) (hf : zlk (zFt M) pc = some (p0, .iaload, nx, lv, t)) (kk : Z X M f (zr X h m S) nx L (.int (S 19 j) :: st) Q) : Z X M f (zr X h m S) pc L (.int i :: .ref (m + 15) :: st) Q := z_iald j (zr_a rfl rfl) hf hi hj kk
theorem r_lv19 {i x : Int32} {p0 nx t : Nat} {lv : Int32} (j : Nat) (e : S 19 j = x) (hi : i.toInt = (j : Int)) (hj : j < 520) (hf : zlk (zFt M) pc = some (p0, .iaload, nx, lv, t)) (kk : Z X M f (zr X h m S) nx L (.int x :: st) Q) : Z X M f (zr X h m S) pc L (.int i :: .ref (m + 15) :: st) Q := r_ld19 j hi hj hf (by rw [e]; exact kk)
theorem zr_s20 {g : Nat → Int32} : zset (zr X h m S) (m + 16) (zI X 520 g) = zr X h m (zV S 20 g) := zr_put (j := 16) rfl rfl (by
    intro i hi hne
    match i, hi, hne with
    | 0, _, _ => rfl
    | 1, _, _ => rfl
    | 2, _, _ => rfl
    | 3, _, _ => rfl
    | 4, _, _ => rfl
    | 5, _, _ => rfl
    | 6, _, _ => rfl
    | 7, _, _ => rfl
    | 8, _, _ => rfl
    | 9, _, _ => rfl
    | 10, _, _ => rfl
    | 11, _, _ => rfl
    | 12, _, _ => rfl
    | 13, _, _ => rfl
    | 14, _, _ => rfl
    | 15, _, _ => rfl
    | 16, _, hne => exact absurd rfl hne
    | 17, _, _ => rfl
    | 18, _, _ => rfl
    | 19, _, _ => rfl
    | 20, _, _ => rfl
    | 21, _, _ => rfl
    | 22, _, _ => rfl
    | n + 23, hi, _ => omega)
theorem r_st20 {i x : Int32} {p0 nx t : Nat} {lv : Int32} (j : Nat) (hi : i.toInt = (j : Int)) (hj : j < 520) (hf : zlk (zFt M) pc = some (p0, .iastore, nx, lv, t)) (kk : Z X M f (zr X h m (zV S 20 (upd (S 20) j x))) nx L st Q) : Z X M f (zr X h m S) pc L (.int x :: .int i :: .ref (m + 16) :: st) Q := z_iast j (zr_a rfl rfl) hf hi hj (by rw [zr_s20]; exact kk)
theorem r_ld20 {i : Int32} {p0 nx t : Nat} {lv : Int32} (j : Nat) (hi : i.toInt = (j : Int)) (hj : j < 520) (hf : zlk (zFt M) pc = some (p0, .iaload, nx, lv, t)) (kk : Z X M f (zr X h m S) nx L (.int (S 20 j) :: st) Q) : Z X M f (zr X h m S) pc L (.int i :: .ref (m + 16) :: st) Q := z_iald j (zr_a rfl rfl) hf hi hj kk
theorem r_lv20 {i x : Int32} {p0 nx t : Nat} {lv : Int32} (j : Nat) (e : S 20 j = x) (hi : i.toInt = (j : Int)) (hj : j < 520) (hf : zlk (zFt M) pc = some (p0, .iaload, nx, lv, t)) (kk : Z X M f (zr X h m S) nx L (.int x :: st) Q) : Z X M f (zr X h m S) pc L (.int i :: .ref (m + 16) :: st) Q := r_ld20 j hi hj hf (by rw [e]; exact kk)
theorem zr_s21 {g : Nat → Int32} : zset (zr X h m S) (m + 17) (zI X 520 g) = zr X h m (zV S 21 g) := zr_put (j := 17) rfl rfl (by
    intro i hi hne
    match i, hi, hne with
    | 0, _, _ => rfl
    | 1, _, _ => rfl
    | 2, _, _ => rfl
    | 3, _, _ => rfl
    | 4, _, _ => rfl
    | 5, _, _ => rfl
    | 6, _, _ => rfl
    | 7, _, _ => rfl
    | 8, _, _ => rfl
    | 9, _, _ => rfl
    | 10, _, _ => rfl
    | 11, _, _ => rfl
    | 12, _, _ => rfl
    | 13, _, _ => rfl
    | 14, _, _ => rfl
    | 15, _, _ => rfl
    | 16, _, _ => rfl
    | 17, _, hne => exact absurd rfl hne
    | 18, _, _ => rfl
    | 19, _, _ => rfl
    | 20, _, _ => rfl
    | 21, _, _ => rfl
    | 22, _, _ => rfl
    | n + 23, hi, _ => omega)
theorem r_st21 {i x : Int32} {p0 nx t : Nat} {lv : Int32} (j : Nat) (hi : i.toInt = (j : Int)) (hj : j < 520) (hf : zlk (zFt M) pc = some (p0, .iastore, nx, lv, t)) (kk : Z X M f (zr X h m (zV S 21 (upd (S 21) j x))) nx L st Q) : Z X M f (zr X h m S) pc L (.int x :: .int i :: .ref (m + 17) :: st) Q := z_iast j (zr_a rfl rfl) hf hi hj (by rw [zr_s21]; exact kk)
theorem r_ld21 {i : Int32} {p0 nx t : Nat} {lv : Int32} (j : Nat) (hi : i.toInt = (j : Int)) (hj : j < 520) (hf : zlk (zFt M) pc = some (p0, .iaload, nx, lv, t)) (kk : Z X M f (zr X h m S) nx L (.int (S 21 j) :: st) Q) : Z X M f (zr X h m S) pc L (.int i :: .ref (m + 17) :: st) Q := z_iald j (zr_a rfl rfl) hf hi hj kk
theorem r_lv21 {i x : Int32} {p0 nx t : Nat} {lv : Int32} (j : Nat) (e : S 21 j = x) (hi : i.toInt = (j : Int)) (hj : j < 520) (hf : zlk (zFt M) pc = some (p0, .iaload, nx, lv, t)) (kk : Z X M f (zr X h m S) nx L (.int x :: st) Q) : Z X M f (zr X h m S) pc L (.int i :: .ref (m + 17) :: st) Q := r_ld21 j hi hj hf (by rw [e]; exact kk)
theorem zr_s22 {g : Nat → Int32} : zset (zr X h m S) (m + 18) (zI X 520 g) = zr X h m (zV S 22 g) := zr_put (j := 18) rfl rfl (by
    intro i hi hne
    match i, hi, hne with
    | 0, _, _ => rfl
    | 1, _, _ => rfl
    | 2, _, _ => rfl
    | 3, _, _ => rfl
    | 4, _, _ => rfl
    | 5, _, _ => rfl
    | 6, _, _ => rfl
    | 7, _, _ => rfl
    | 8, _, _ => rfl
    | 9, _, _ => rfl
    | 10, _, _ => rfl
    | 11, _, _ => rfl
    | 12, _, _ => rfl
    | 13, _, _ => rfl
    | 14, _, _ => rfl
    | 15, _, _ => rfl
    | 16, _, _ => rfl
    | 17, _, _ => rfl
    | 18, _, hne => exact absurd rfl hne
    | 19, _, _ => rfl
    | 20, _, _ => rfl
    | 21, _, _ => rfl
    | 22, _, _ => rfl
    | n + 23, hi, _ => omega)
theorem r_st22 {i x : Int32} {p0 nx t : Nat} {lv : Int32} (j : Nat) (hi : i.toInt = (j : Int)) (hj : j < 520) (hf : zlk (zFt M) pc = some (p0, .iastore, nx, lv, t)) (kk : Z X M f (zr X h m (zV S 22 (upd (S 22) j x))) nx L st Q) : Z X M f (zr X h m S) pc L (.int x :: .int i :: .ref (m + 18) :: st) Q := z_iast j (zr_a rfl rfl) hf hi hj (by rw [zr_s22]; exact kk)
theorem r_ld22 {i : Int32} {p0 nx t : Nat} {lv : Int32} (j : Nat) (hi : i.toInt = (j : Int)) (hj : j < 520) (hf : zlk (zFt M) pc = some (p0, .iaload, nx, lv, t)) (kk : Z X M f (zr X h m S) nx L (.int (S 22 j) :: st) Q) : Z X M f (zr X h m S) pc L (.int i :: .ref (m + 18) :: st) Q := z_iald j (zr_a rfl rfl) hf hi hj kk
theorem r_lv22 {i x : Int32} {p0 nx t : Nat} {lv : Int32} (j : Nat) (e : S 22 j = x) (hi : i.toInt = (j : Int)) (hj : j < 520) (hf : zlk (zFt M) pc = some (p0, .iaload, nx, lv, t)) (kk : Z X M f (zr X h m S) nx L (.int x :: st) Q) : Z X M f (zr X h m S) pc L (.int i :: .ref (m + 18) :: st) Q := r_ld22 j hi hj hf (by rw [e]; exact kk)
theorem zr_s24 {g : Nat → Int32} : zset (zr X h m S) (m + 19) (zI X 520 g) = zr X h m (zV S 24 g) := zr_put (j := 19) rfl rfl (by
    intro i hi hne
    match i, hi, hne with
    | 0, _, _ => rfl
    | 1, _, _ => rfl
    | 2, _, _ => rfl
    | 3, _, _ => rfl
    | 4, _, _ => rfl
    | 5, _, _ => rfl
    | 6, _, _ => rfl
    | 7, _, _ => rfl
    | 8, _, _ => rfl
    | 9, _, _ => rfl
    | 10, _, _ => rfl
    | 11, _, _ => rfl
    | 12, _, _ => rfl
    | 13, _, _ => rfl
    | 14, _, _ => rfl
    | 15, _, _ => rfl
    | 16, _, _ => rfl
    | 17, _, _ => rfl
    | 18, _, _ => rfl
    | 19, _, hne => exact absurd rfl hne
    | 20, _, _ => rfl
    | 21, _, _ => rfl
    | 22, _, _ => rfl
    | n + 23, hi, _ => omega)
theorem r_st24 {i x : Int32} {p0 nx t : Nat} {lv : Int32} (j : Nat) (hi : i.toInt = (j : Int)) (hj : j < 520) (hf : zlk (zFt M) pc = some (p0, .iastore, nx, lv, t)) (kk : Z X M f (zr X h m (zV S 24 (upd (S 24) j x))) nx L st Q) : Z X M f (zr X h m S) pc L (.int x :: .int i :: .ref (m + 19) :: st) Q := z_iast j (zr_a rfl rfl) hf hi hj (by rw [zr_s24]; exact kk)
theorem r_ld24 {i : Int32} {p0 nx t : Nat} {lv : Int32} (j : Nat) (hi : i.toInt = (j : Int)) (hj : j < 520) (hf : zlk (zFt M) pc = some (p0, .iaload, nx, lv, t)) (kk : Z X M f (zr X h m S) nx L (.int (S 24 j) :: st) Q) : Z X M f (zr X h m S) pc L (.int i :: .ref (m + 19) :: st) Q := z_iald j (zr_a rfl rfl) hf hi hj kk
theorem r_lv24 {i x : Int32} {p0 nx t : Nat} {lv : Int32} (j : Nat) (e : S 24 j = x) (hi : i.toInt = (j : Int)) (hj : j < 520) (hf : zlk (zFt M) pc = some (p0, .iaload, nx, lv, t)) (kk : Z X M f (zr X h m S) nx L (.int x :: st) Q) : Z X M f (zr X h m S) pc L (.int i :: .ref (m + 19) :: st) Q := r_ld24 j hi hj hf (by rw [e]; exact kk)
theorem zr_s26 {g : Nat → Int32} : zset (zr X h m S) (m + 20) (zI X 5300 g) = zr X h m (zV S 26 g) := zr_put (j := 20) rfl rfl (by
    intro i hi hne
    match i, hi, hne with
    | 0, _, _ => rfl
    | 1, _, _ => rfl
    | 2, _, _ => rfl
    | 3, _, _ => rfl
    | 4, _, _ => rfl
    | 5, _, _ => rfl
    | 6, _, _ => rfl
    | 7, _, _ => rfl
    | 8, _, _ => rfl
    | 9, _, _ => rfl
    | 10, _, _ => rfl
    | 11, _, _ => rfl
    | 12, _, _ => rfl
    | 13, _, _ => rfl
    | 14, _, _ => rfl
    | 15, _, _ => rfl
    | 16, _, _ => rfl
    | 17, _, _ => rfl
    | 18, _, _ => rfl
    | 19, _, _ => rfl
    | 20, _, hne => exact absurd rfl hne
    | 21, _, _ => rfl
    | 22, _, _ => rfl
    | n + 23, hi, _ => omega)
theorem r_st26 {i x : Int32} {p0 nx t : Nat} {lv : Int32} (j : Nat) (hi : i.toInt = (j : Int)) (hj : j < 5300) (hf : zlk (zFt M) pc = some (p0, .iastore, nx, lv, t)) (kk : Z X M f (zr X h m (zV S 26 (upd (S 26) j x))) nx L st Q) : Z X M f (zr X h m S) pc L (.int x :: .int i :: .ref (m + 20) :: st) Q := z_iast j (zr_a rfl rfl) hf hi hj (by rw [zr_s26]; exact kk)
theorem r_ld26 {i : Int32} {p0 nx t : Nat} {lv : Int32} (j : Nat) (hi : i.toInt = (j : Int)) (hj : j < 5300) (hf : zlk (zFt M) pc = some (p0, .iaload, nx, lv, t)) (kk : Z X M f (zr X h m S) nx L (.int (S 26 j) :: st) Q) : Z X M f (zr X h m S) pc L (.int i :: .ref (m + 20) :: st) Q := z_iald j (zr_a rfl rfl) hf hi hj kk
theorem r_lv26 {i x : Int32} {p0 nx t : Nat} {lv : Int32} (j : Nat) (e : S 26 j = x) (hi : i.toInt = (j : Int)) (hj : j < 5300) (hf : zlk (zFt M) pc = some (p0, .iaload, nx, lv, t)) (kk : Z X M f (zr X h m S) nx L (.int x :: st) Q) : Z X M f (zr X h m S) pc L (.int i :: .ref (m + 20) :: st) Q := r_ld26 j hi hj hf (by rw [e]; exact kk)
theorem zr_s28 {g : Nat → Int32} : zset (zr X h m S) (m + 21) (zZ X 520 g) = zr X h m (zV S 28 g) := zr_put (j := 21) rfl rfl (by
    intro i hi hne
    match i, hi, hne with
    | 0, _, _ => rfl
    | 1, _, _ => rfl
    | 2, _, _ => rfl
    | 3, _, _ => rfl
    | 4, _, _ => rfl
    | 5, _, _ => rfl
    | 6, _, _ => rfl
    | 7, _, _ => rfl
    | 8, _, _ => rfl
    | 9, _, _ => rfl
    | 10, _, _ => rfl
    | 11, _, _ => rfl
    | 12, _, _ => rfl
    | 13, _, _ => rfl
    | 14, _, _ => rfl
    | 15, _, _ => rfl
    | 16, _, _ => rfl
    | 17, _, _ => rfl
    | 18, _, _ => rfl
    | 19, _, _ => rfl
    | 20, _, _ => rfl
    | 21, _, hne => exact absurd rfl hne
    | 22, _, _ => rfl
    | n + 23, hi, _ => omega)
theorem r_st28 {i x : Int32} {p0 nx t : Nat} {lv : Int32} (j : Nat) (hi : i.toInt = (j : Int)) (hj : j < 520) (hf : zlk (zFt M) pc = some (p0, .bastore, nx, lv, t)) (kk : Z X M f (zr X h m (zV S 28 (upd (S 28) j (vp_nar .boolean x)))) nx L st Q) : Z X M f (zr X h m S) pc L (.int x :: .int i :: .ref (m + 21) :: st) Q := z_zast j (zr_a rfl rfl) hf hi hj (by rw [zr_s28]; exact kk)
theorem r_ld28 {i : Int32} {p0 nx t : Nat} {lv : Int32} (j : Nat) (hi : i.toInt = (j : Int)) (hj : j < 520) (hf : zlk (zFt M) pc = some (p0, .baload, nx, lv, t)) (kk : Z X M f (zr X h m S) nx L (.int (S 28 j) :: st) Q) : Z X M f (zr X h m S) pc L (.int i :: .ref (m + 21) :: st) Q := z_zald j (zr_a rfl rfl) hf hi hj kk
theorem r_lv28 {i x : Int32} {p0 nx t : Nat} {lv : Int32} (j : Nat) (e : S 28 j = x) (hi : i.toInt = (j : Int)) (hj : j < 520) (hf : zlk (zFt M) pc = some (p0, .baload, nx, lv, t)) (kk : Z X M f (zr X h m S) nx L (.int x :: st) Q) : Z X M f (zr X h m S) pc L (.int i :: .ref (m + 21) :: st) Q := r_ld28 j hi hj hf (by rw [e]; exact kk)
theorem zr_s29 {g : Nat → Int32} : zset (zr X h m S) (m + 22) (zY X 8192 g) = zr X h m (zV S 29 g) := zr_put (j := 22) rfl rfl (by
    intro i hi hne
    match i, hi, hne with
    | 0, _, _ => rfl
    | 1, _, _ => rfl
    | 2, _, _ => rfl
    | 3, _, _ => rfl
    | 4, _, _ => rfl
    | 5, _, _ => rfl
    | 6, _, _ => rfl
    | 7, _, _ => rfl
    | 8, _, _ => rfl
    | 9, _, _ => rfl
    | 10, _, _ => rfl
    | 11, _, _ => rfl
    | 12, _, _ => rfl
    | 13, _, _ => rfl
    | 14, _, _ => rfl
    | 15, _, _ => rfl
    | 16, _, _ => rfl
    | 17, _, _ => rfl
    | 18, _, _ => rfl
    | 19, _, _ => rfl
    | 20, _, _ => rfl
    | 21, _, _ => rfl
    | 22, _, hne => exact absurd rfl hne
    | n + 23, hi, _ => omega)
theorem r_st29 {i x : Int32} {p0 nx t : Nat} {lv : Int32} (j : Nat) (hi : i.toInt = (j : Int)) (hj : j < 8192) (hf : zlk (zFt M) pc = some (p0, .bastore, nx, lv, t)) (kk : Z X M f (zr X h m (zV S 29 (upd (S 29) j x.toInt8.toInt32))) nx L st Q) : Z X M f (zr X h m S) pc L (.int x :: .int i :: .ref (m + 22) :: st) Q := z_bast j (zr_a rfl rfl) hf hi hj (by rw [zr_s29]; exact kk)
theorem r_ld29 {i : Int32} {p0 nx t : Nat} {lv : Int32} (j : Nat) (hi : i.toInt = (j : Int)) (hj : j < 8192) (hf : zlk (zFt M) pc = some (p0, .baload, nx, lv, t)) (kk : Z X M f (zr X h m S) nx L (.int (S 29 j) :: st) Q) : Z X M f (zr X h m S) pc L (.int i :: .ref (m + 22) :: st) Q := z_bald j (zr_a rfl rfl) hf hi hj kk
theorem r_lv29 {i x : Int32} {p0 nx t : Nat} {lv : Int32} (j : Nat) (e : S 29 j = x) (hi : i.toInt = (j : Int)) (hj : j < 8192) (hf : zlk (zFt M) pc = some (p0, .baload, nx, lv, t)) (kk : Z X M f (zr X h m S) nx L (.int x :: st) Q) : Z X M f (zr X h m S) pc L (.int i :: .ref (m + 22) :: st) Q := r_ld29 j hi hj hf (by rw [e]; exact kk)
theorem r_v0 {x : Int32} {p0 idx nx t : Nat} {lv : Int32} {ref name desc : String} (e : S 0 0 = x) (hf : zlk (zFt M) pc = some (p0, .getfield idx, nx, lv, t)) (hr : zFR[t]? = some ((zNm M).cls, idx, ref, name, desc)) (hk : zfk 12 t = some 0) (kk : Z X M f (zr X h m S) nx L (.int x :: st) Q) : Z X M f (zr X h m S) pc L (.ref m :: st) Q := z_get zr_o hf hr hk rfl (by rw [e]; exact kk)
theorem zr_s0 {x : Int32} : zset (zr X h m S) m (zro (zV S 0 (fun _ => x)) m) = zr X h m (zV S 0 (fun _ => x)) := zr_put (j := 0) rfl rfl (by
    intro i hi hne
    match i, hi, hne with
    | 0, _, hne => exact absurd rfl hne
    | 1, _, _ => rfl
    | 2, _, _ => rfl
    | 3, _, _ => rfl
    | 4, _, _ => rfl
    | 5, _, _ => rfl
    | 6, _, _ => rfl
    | 7, _, _ => rfl
    | 8, _, _ => rfl
    | 9, _, _ => rfl
    | 10, _, _ => rfl
    | 11, _, _ => rfl
    | 12, _, _ => rfl
    | 13, _, _ => rfl
    | 14, _, _ => rfl
    | 15, _, _ => rfl
    | 16, _, _ => rfl
    | 17, _, _ => rfl
    | 18, _, _ => rfl
    | 19, _, _ => rfl
    | 20, _, _ => rfl
    | 21, _, _ => rfl
    | 22, _, _ => rfl
    | n + 23, hi, _ => omega)
theorem r_p0 {x : Int32} {p0 idx nx t : Nat} {lv : Int32} {ref name desc : String} (hf : zlk (zFt M) pc = some (p0, .putfield idx, nx, lv, t)) (hr : zFR[t]? = some ((zNm M).cls, idx, ref, name, desc)) (hk : zfk 12 t = some 0) (kk : Z X M f (zr X h m (zV S 0 (fun _ => x))) nx L st Q) : Z X M f (zr X h m S) pc L (.int x :: .ref m :: st) Q := z_put zr_o hf hr hk rfl rfl rfl (Nat.le_of_ble_eq_true rfl) (by rw [show (.inr (12, List.set _ 0 (Value.int x)) : va_E) = zro (zV S 0 (fun _ => x)) m from rfl, zr_s0]; exact kk)
theorem r_v1 {x : Int32} {p0 idx nx t : Nat} {lv : Int32} {ref name desc : String} (e : S 1 0 = x) (hf : zlk (zFt M) pc = some (p0, .getfield idx, nx, lv, t)) (hr : zFR[t]? = some ((zNm M).cls, idx, ref, name, desc)) (hk : zfk 12 t = some 1) (kk : Z X M f (zr X h m S) nx L (.int x :: st) Q) : Z X M f (zr X h m S) pc L (.ref m :: st) Q := z_get zr_o hf hr hk rfl (by rw [e]; exact kk)
theorem zr_s1 {x : Int32} : zset (zr X h m S) m (zro (zV S 1 (fun _ => x)) m) = zr X h m (zV S 1 (fun _ => x)) := zr_put (j := 0) rfl rfl (by
    intro i hi hne
    match i, hi, hne with
    | 0, _, hne => exact absurd rfl hne
    | 1, _, _ => rfl
    | 2, _, _ => rfl
    | 3, _, _ => rfl
    | 4, _, _ => rfl
    | 5, _, _ => rfl
    | 6, _, _ => rfl
    | 7, _, _ => rfl
    | 8, _, _ => rfl
    | 9, _, _ => rfl
    | 10, _, _ => rfl
    | 11, _, _ => rfl
    | 12, _, _ => rfl
    | 13, _, _ => rfl
    | 14, _, _ => rfl
    | 15, _, _ => rfl
    | 16, _, _ => rfl
    | 17, _, _ => rfl
    | 18, _, _ => rfl
    | 19, _, _ => rfl
    | 20, _, _ => rfl
    | 21, _, _ => rfl
    | 22, _, _ => rfl
    | n + 23, hi, _ => omega)
theorem r_v2 {x : Int32} {p0 idx nx t : Nat} {lv : Int32} {ref name desc : String} (e : S 2 0 = x) (hf : zlk (zFt M) pc = some (p0, .getfield idx, nx, lv, t)) (hr : zFR[t]? = some ((zNm M).cls, idx, ref, name, desc)) (hk : zfk 12 t = some 2) (kk : Z X M f (zr X h m S) nx L (.int x :: st) Q) : Z X M f (zr X h m S) pc L (.ref m :: st) Q := z_get zr_o hf hr hk rfl (by rw [e]; exact kk)
theorem zr_s2 {x : Int32} : zset (zr X h m S) m (zro (zV S 2 (fun _ => x)) m) = zr X h m (zV S 2 (fun _ => x)) := zr_put (j := 0) rfl rfl (by
    intro i hi hne
    match i, hi, hne with
    | 0, _, hne => exact absurd rfl hne
    | 1, _, _ => rfl
    | 2, _, _ => rfl
    | 3, _, _ => rfl
    | 4, _, _ => rfl
    | 5, _, _ => rfl
    | 6, _, _ => rfl
    | 7, _, _ => rfl
    | 8, _, _ => rfl
    | 9, _, _ => rfl
    | 10, _, _ => rfl
    | 11, _, _ => rfl
    | 12, _, _ => rfl
    | 13, _, _ => rfl
    | 14, _, _ => rfl
    | 15, _, _ => rfl
    | 16, _, _ => rfl
    | 17, _, _ => rfl
    | 18, _, _ => rfl
    | 19, _, _ => rfl
    | 20, _, _ => rfl
    | 21, _, _ => rfl
    | 22, _, _ => rfl
    | n + 23, hi, _ => omega)
theorem r_v7 {x : Int32} {p0 idx nx t : Nat} {lv : Int32} {ref name desc : String} (e : S 7 0 = x) (hf : zlk (zFt M) pc = some (p0, .getfield idx, nx, lv, t)) (hr : zFR[t]? = some ((zNm M).cls, idx, ref, name, desc)) (hk : zfk 12 t = some 7) (kk : Z X M f (zr X h m S) nx L (.int x :: st) Q) : Z X M f (zr X h m S) pc L (.ref m :: st) Q := z_get zr_o hf hr hk rfl (by rw [e]; exact kk)
theorem zr_s7 {x : Int32} : zset (zr X h m S) m (zro (zV S 7 (fun _ => x)) m) = zr X h m (zV S 7 (fun _ => x)) := zr_put (j := 0) rfl rfl (by
    intro i hi hne
    match i, hi, hne with
    | 0, _, hne => exact absurd rfl hne
    | 1, _, _ => rfl
    | 2, _, _ => rfl
    | 3, _, _ => rfl
    | 4, _, _ => rfl
    | 5, _, _ => rfl
    | 6, _, _ => rfl
    | 7, _, _ => rfl
    | 8, _, _ => rfl
    | 9, _, _ => rfl
    | 10, _, _ => rfl
    | 11, _, _ => rfl
    | 12, _, _ => rfl
    | 13, _, _ => rfl
    | 14, _, _ => rfl
    | 15, _, _ => rfl
    | 16, _, _ => rfl
    | 17, _, _ => rfl
    | 18, _, _ => rfl
    | 19, _, _ => rfl
    | 20, _, _ => rfl
    | 21, _, _ => rfl
    | 22, _, _ => rfl
    | n + 23, hi, _ => omega)
theorem r_p7 {x : Int32} {p0 idx nx t : Nat} {lv : Int32} {ref name desc : String} (hf : zlk (zFt M) pc = some (p0, .putfield idx, nx, lv, t)) (hr : zFR[t]? = some ((zNm M).cls, idx, ref, name, desc)) (hk : zfk 12 t = some 7) (kk : Z X M f (zr X h m (zV S 7 (fun _ => x))) nx L st Q) : Z X M f (zr X h m S) pc L (.int x :: .ref m :: st) Q := z_put zr_o hf hr hk rfl rfl rfl (Nat.le_of_ble_eq_true rfl) (by rw [show (.inr (12, List.set _ 7 (Value.int x)) : va_E) = zro (zV S 7 (fun _ => x)) m from rfl, zr_s7]; exact kk)
theorem r_v14 {x : Int32} {p0 idx nx t : Nat} {lv : Int32} {ref name desc : String} (e : S 14 0 = x) (hf : zlk (zFt M) pc = some (p0, .getfield idx, nx, lv, t)) (hr : zFR[t]? = some ((zNm M).cls, idx, ref, name, desc)) (hk : zfk 12 t = some 14) (kk : Z X M f (zr X h m S) nx L (.int x :: st) Q) : Z X M f (zr X h m S) pc L (.ref m :: st) Q := z_get zr_o hf hr hk rfl (by rw [e]; exact kk)
theorem zr_s14 {x : Int32} : zset (zr X h m S) m (zro (zV S 14 (fun _ => x)) m) = zr X h m (zV S 14 (fun _ => x)) := zr_put (j := 0) rfl rfl (by
    intro i hi hne
    match i, hi, hne with
    | 0, _, hne => exact absurd rfl hne
    | 1, _, _ => rfl
    | 2, _, _ => rfl
    | 3, _, _ => rfl
    | 4, _, _ => rfl
    | 5, _, _ => rfl
    | 6, _, _ => rfl
    | 7, _, _ => rfl
    | 8, _, _ => rfl
    | 9, _, _ => rfl
    | 10, _, _ => rfl
    | 11, _, _ => rfl
    | 12, _, _ => rfl
    | 13, _, _ => rfl
    | 14, _, _ => rfl
    | 15, _, _ => rfl
    | 16, _, _ => rfl
    | 17, _, _ => rfl
    | 18, _, _ => rfl
    | 19, _, _ => rfl
    | 20, _, _ => rfl
    | 21, _, _ => rfl
    | 22, _, _ => rfl
    | n + 23, hi, _ => omega)
theorem r_p14 {x : Int32} {p0 idx nx t : Nat} {lv : Int32} {ref name desc : String} (hf : zlk (zFt M) pc = some (p0, .putfield idx, nx, lv, t)) (hr : zFR[t]? = some ((zNm M).cls, idx, ref, name, desc)) (hk : zfk 12 t = some 14) (kk : Z X M f (zr X h m (zV S 14 (fun _ => x))) nx L st Q) : Z X M f (zr X h m S) pc L (.int x :: .ref m :: st) Q := z_put zr_o hf hr hk rfl rfl rfl (Nat.le_of_ble_eq_true rfl) (by rw [show (.inr (12, List.set _ 14 (Value.int x)) : va_E) = zro (zV S 14 (fun _ => x)) m from rfl, zr_s14]; exact kk)
theorem r_v23 {x : Int32} {p0 idx nx t : Nat} {lv : Int32} {ref name desc : String} (e : S 23 0 = x) (hf : zlk (zFt M) pc = some (p0, .getfield idx, nx, lv, t)) (hr : zFR[t]? = some ((zNm M).cls, idx, ref, name, desc)) (hk : zfk 12 t = some 23) (kk : Z X M f (zr X h m S) nx L (.int x :: st) Q) : Z X M f (zr X h m S) pc L (.ref m :: st) Q := z_get zr_o hf hr hk rfl (by rw [e]; exact kk)
theorem zr_s23 {x : Int32} : zset (zr X h m S) m (zro (zV S 23 (fun _ => x)) m) = zr X h m (zV S 23 (fun _ => x)) := zr_put (j := 0) rfl rfl (by
    intro i hi hne
    match i, hi, hne with
    | 0, _, hne => exact absurd rfl hne
    | 1, _, _ => rfl
    | 2, _, _ => rfl
    | 3, _, _ => rfl
    | 4, _, _ => rfl
    | 5, _, _ => rfl
    | 6, _, _ => rfl
    | 7, _, _ => rfl
    | 8, _, _ => rfl
    | 9, _, _ => rfl
    | 10, _, _ => rfl
    | 11, _, _ => rfl
    | 12, _, _ => rfl
    | 13, _, _ => rfl
    | 14, _, _ => rfl
    | 15, _, _ => rfl
    | 16, _, _ => rfl
    | 17, _, _ => rfl
    | 18, _, _ => rfl
    | 19, _, _ => rfl
    | 20, _, _ => rfl
    | 21, _, _ => rfl
    | 22, _, _ => rfl
    | n + 23, hi, _ => omega)
theorem r_p23 {x : Int32} {p0 idx nx t : Nat} {lv : Int32} {ref name desc : String} (hf : zlk (zFt M) pc = some (p0, .putfield idx, nx, lv, t)) (hr : zFR[t]? = some ((zNm M).cls, idx, ref, name, desc)) (hk : zfk 12 t = some 23) (kk : Z X M f (zr X h m (zV S 23 (fun _ => x))) nx L st Q) : Z X M f (zr X h m S) pc L (.int x :: .ref m :: st) Q := z_put zr_o hf hr hk rfl rfl rfl (Nat.le_of_ble_eq_true rfl) (by rw [show (.inr (12, List.set _ 23 (Value.int x)) : va_E) = zro (zV S 23 (fun _ => x)) m from rfl, zr_s23]; exact kk)
theorem r_v25 {x : Int32} {p0 idx nx t : Nat} {lv : Int32} {ref name desc : String} (e : S 25 0 = x) (hf : zlk (zFt M) pc = some (p0, .getfield idx, nx, lv, t)) (hr : zFR[t]? = some ((zNm M).cls, idx, ref, name, desc)) (hk : zfk 12 t = some 25) (kk : Z X M f (zr X h m S) nx L (.int x :: st) Q) : Z X M f (zr X h m S) pc L (.ref m :: st) Q := z_get zr_o hf hr hk rfl (by rw [e]; exact kk)
theorem zr_s25 {x : Int32} : zset (zr X h m S) m (zro (zV S 25 (fun _ => x)) m) = zr X h m (zV S 25 (fun _ => x)) := zr_put (j := 0) rfl rfl (by
    intro i hi hne
    match i, hi, hne with
    | 0, _, hne => exact absurd rfl hne
    | 1, _, _ => rfl
    | 2, _, _ => rfl
    | 3, _, _ => rfl
    | 4, _, _ => rfl
    | 5, _, _ => rfl
    | 6, _, _ => rfl
    | 7, _, _ => rfl
    | 8, _, _ => rfl
    | 9, _, _ => rfl
    | 10, _, _ => rfl
    | 11, _, _ => rfl
    | 12, _, _ => rfl
    | 13, _, _ => rfl
    | 14, _, _ => rfl
    | 15, _, _ => rfl
    | 16, _, _ => rfl
    | 17, _, _ => rfl
    | 18, _, _ => rfl
    | 19, _, _ => rfl
    | 20, _, _ => rfl
    | 21, _, _ => rfl
    | 22, _, _ => rfl
    | n + 23, hi, _ => omega)
theorem r_p25 {x : Int32} {p0 idx nx t : Nat} {lv : Int32} {ref name desc : String} (hf : zlk (zFt M) pc = some (p0, .putfield idx, nx, lv, t)) (hr : zFR[t]? = some ((zNm M).cls, idx, ref, name, desc)) (hk : zfk 12 t = some 25) (kk : Z X M f (zr X h m (zV S 25 (fun _ => x))) nx L st Q) : Z X M f (zr X h m S) pc L (.int x :: .ref m :: st) Q := z_put zr_o hf hr hk rfl rfl rfl (Nat.le_of_ble_eq_true rfl) (by rw [show (.inr (12, List.set _ 25 (Value.int x)) : va_E) = zro (zV S 25 (fun _ => x)) m from rfl, zr_s25]; exact kk)
theorem r_v27 {x : Int32} {p0 idx nx t : Nat} {lv : Int32} {ref name desc : String} (e : S 27 0 = x) (hf : zlk (zFt M) pc = some (p0, .getfield idx, nx, lv, t)) (hr : zFR[t]? = some ((zNm M).cls, idx, ref, name, desc)) (hk : zfk 12 t = some 27) (kk : Z X M f (zr X h m S) nx L (.int x :: st) Q) : Z X M f (zr X h m S) pc L (.ref m :: st) Q := z_get zr_o hf hr hk rfl (by rw [e]; exact kk)
theorem zr_s27 {x : Int32} : zset (zr X h m S) m (zro (zV S 27 (fun _ => x)) m) = zr X h m (zV S 27 (fun _ => x)) := zr_put (j := 0) rfl rfl (by
    intro i hi hne
    match i, hi, hne with
    | 0, _, hne => exact absurd rfl hne
    | 1, _, _ => rfl
    | 2, _, _ => rfl
    | 3, _, _ => rfl
    | 4, _, _ => rfl
    | 5, _, _ => rfl
    | 6, _, _ => rfl
    | 7, _, _ => rfl
    | 8, _, _ => rfl
    | 9, _, _ => rfl
    | 10, _, _ => rfl
    | 11, _, _ => rfl
    | 12, _, _ => rfl
    | 13, _, _ => rfl
    | 14, _, _ => rfl
    | 15, _, _ => rfl
    | 16, _, _ => rfl
    | 17, _, _ => rfl
    | 18, _, _ => rfl
    | 19, _, _ => rfl
    | 20, _, _ => rfl
    | 21, _, _ => rfl
    | 22, _, _ => rfl
    | n + 23, hi, _ => omega)
theorem r_p27 {x : Int32} {p0 idx nx t : Nat} {lv : Int32} {ref name desc : String} (hf : zlk (zFt M) pc = some (p0, .putfield idx, nx, lv, t)) (hr : zFR[t]? = some ((zNm M).cls, idx, ref, name, desc)) (hk : zfk 12 t = some 27) (kk : Z X M f (zr X h m (zV S 27 (fun _ => x))) nx L st Q) : Z X M f (zr X h m S) pc L (.int x :: .ref m :: st) Q := z_put zr_o hf hr hk rfl rfl rfl (Nat.le_of_ble_eq_true rfl) (by rw [show (.inr (12, List.set _ 27 (Value.int x)) : va_E) = zro (zV S 27 (fun _ => x)) m from rfl, zr_s27]; exact kk)
end ZRF
end
section
theorem zdown {P : Nat → Prop} (n : Nat) (h : ∀ k, k ≤ n → (k < n → P (k + 1)) → P k) (k : Nat) (hk : k ≤ n) : P k := by
  have H : ∀ r k, r = n - k → k ≤ n → P k := by
    intro r
    induction r with
    | zero => intro k h1 h2; exact h k h2 (fun q => by omega)
    | succ r ih => intro k h1 h2; exact h k h2 (fun q => ih (k + 1) (by omega) (by omega))
  exact H _ k rfl hk
theorem n_add (a b : Nat) : nI a + nI b = nI (a + b) := by
  unfold nI
  rw [Int32.ofNat_add]
theorem n_mul (a b : Nat) : nI a * nI b = nI (a * b) := by
  unfold nI
  rw [Int32.ofNat_mul]
theorem n_sub {a b : Nat} (h : b ≤ a) (ha : a < 2147483648) : nI a - nI b = nI (a - b) := by
  apply i_ext
  have e1 := i_nI (n := a) ha
  have e2 := i_nI (n := b) (by omega)
  have e3 := i_nI (n := a - b) (by omega)
  rw [i_sub] <;> omega
theorem n_div {a b : Nat} (ha : a < 2147483648) (hb : 0 < b) (hb' : b < 2147483648) : nI a / nI b = nI (a / b) := by
  apply i_ext
  have e1 := i_nI (n := a) ha
  have e2 := i_nI (n := b) hb'
  have e3 : a / b ≤ a := Nat.div_le_self a b
  rw [i_div (by omega) (by omega), e1, e2, i_nI (by omega)]
  rfl
theorem n_rem {a b : Nat} (ha : a < 2147483648) (hb : 0 < b) (hb' : b < 2147483648) : nI a - nI a / nI b * nI b = nI (a % b) := by
  apply i_ext
  have e1 := i_nI (n := a) ha
  have e2 := i_nI (n := b) hb'
  have e3 : a % b ≤ a := Nat.mod_le a b
  rw [i_rem (by omega) (by omega), e1, e2, i_nI (by omega)]
  rfl
theorem i_nat {x : Int32} (h : 0 ≤ x.toInt) : ∃ a : Nat, x = nI a ∧ a < 2147483648 := by
  have := i_rng x
  refine ⟨x.toInt.toNat, i_ext ?_, by omega⟩
  rw [i_nI (by omega)]
  omega
section ZRS
variable {X : zCx} {M : zMI} {f : zFr} {h : zHp} {pc : Nat} {L : zLo} {st : List Value} {Q : zRs → zHp → Prop} {m : Nat} {S : zS}
theorem z_cong {h' : zHp} {L' : zLo} {st' : List Value} (eh : h = h') (eL : L = L') (es : st = st') (k : Z X M f h' pc L' st' Q) : Z X M f h pc L st Q := by
  subst eh eL es
  exact k
theorem z_eqS {S' : zS} (e : S = S') (k : Z X M f (zr X h m S') pc L st Q) : Z X M f (zr X h m S) pc L st Q := by
  subst e
  exact k
theorem zV_V (S : zS) (k : Nat) (g g' : Nat → Int32) : zV (zV S k g) k g' = zV S k g' := by
  funext j
  by_cases c : j = k
  · subst c; rw [zV_at, zV_at]
  · rw [zV_ne _ _ c, zV_ne _ _ c, zV_ne _ _ c]
theorem zV_comm (S : zS) {k l : Nat} (g g' : Nat → Int32) (c : k ≠ l) : zV (zV S k g) l g' = zV (zV S l g') k g := by
  funext j
  by_cases d : j = k
  · subst d; rw [zV_at, zV_ne _ _ c, zV_at]
  · by_cases d' : j = l
    · subst d'; rw [zV_at, zV_ne _ _ d, zV_at]
    · rw [zV_ne _ _ d', zV_ne _ _ d, zV_ne _ _ d, zV_ne _ _ d']
theorem zV_same (S : zS) (k : Nat) : zV S k (S k) = S := by
  funext j
  by_cases c : j = k
  · subst c; rw [zV_at]
  · rw [zV_ne _ _ c]
/-! shadows of a row of bytes -/
def sPaint (S : zS) (a b : Nat) (v : Int32) : zS := zV S 4 (fun g => if a / 8 ≤ g ∧ g < (b + 7) / 8 then v else S 4 g)
def sOpen (S : zS) (a n : Nat) : zS := zV S 4 (fun g => if a / 8 ≤ g ∧ 8 * g < a + n then (if 8 * g + 8 ≤ a + n then 0 else nI (a + n - 8 * g)) else S 4 g)
theorem rc_thrown (G : zG X) : ZM X MX11_thrown 0 100 [.ref m] (zr X h m S) (zX (zr X h m S) (some (.int (S 0 0)))) := by
  refine zm_of_z G KX11_thrown rfl rfl ?_
  refine z_go 90 rfl ?_
  refine z_get zr_o rfl rfl rfl rfl ?_
  refine z_go 90 rfl ?_
  exact z_iret rfl rfl ⟨rfl, rfl⟩
theorem rc_refuses (G : zG X) (w : Int32) : ZM X MX11_refuses 0 100 [.ref m, .int w] (zr X h m S) (zX (zr X h m (zV S 0 (fun _ => w))) (some (.int (if w = 0 then 0 else 1)))) := by
  refine zm_of_z G KX11_refuses rfl rfl ?_
  refine z_go 90 rfl ?_
  refine r_p0 rfl rfl rfl ?_
  refine z_go 90 rfl ?_
  refine z_br rfl rfl (fun c => ?_) (fun c => ?_) <;> (try dsimp only at c)
  · refine z_go 90 rfl ?_
    exact z_zret rfl rfl rfl ⟨rfl, by rw [if_pos c]⟩
  · refine z_go 90 rfl ?_
    exact z_zret rfl rfl rfl ⟨rfl, by rw [if_neg c]⟩
theorem rc_padded (G : zG X) (n : Nat) (hn : n ≤ 10000) : ZM X MX11_padded 0 100 [.int (nI n)] h (zX h (some (.int (nI ((n + 31) / 32 * 32 + 32))))) := by
  refine zm_of_z G KX11_padded rfl rfl ?_
  refine z_go 90 rfl ?_
  refine z_div rfl (by decide) ?_
  refine z_go 90 rfl ?_
  refine z_iret rfl rfl ⟨rfl, ?_⟩
  refine congrArg (fun x => Sum.inl (some (Value.int x))) ?_
  show (nI n + nI 31) / nI 32 * nI 32 + nI 32 = _
  rw [n_add, n_div (by omega) (by omega) (by omega), n_mul, n_add]
theorem rc_isSize (G : zG X) (s : Int32) : ZM X MX11_isSize 0 100 [.int s] h (zX h (some (.int (if 0 ≤ s.toInt ∧ s.toInt ≤ 128 then 1 else 0)))) := by
  have e1 : (0 : Int32).toInt = 0 := rfl
  have e2 : (128 : Int32).toInt = 128 := rfl
  refine zm_of_z G KX11_isSize rfl rfl ?_
  refine z_go 90 rfl ?_
  refine z_br rfl rfl (fun c => ?_) (fun c => ?_) <;> (try dsimp only at c)
  · rw [i_lt] at c
    refine z_go 90 rfl ?_
    exact z_zret rfl rfl rfl ⟨rfl, by rw [if_neg (by omega)]⟩
  · rw [i_lt] at c
    refine z_go 90 rfl ?_
    refine z_br rfl rfl (fun d => ?_) (fun d => ?_) <;> (try dsimp only at d)
    · rw [i_lt] at d
      refine z_go 90 rfl ?_
      exact z_zret rfl rfl rfl ⟨rfl, by rw [if_neg (by omega)]⟩
    · rw [i_lt] at d
      refine z_go 90 rfl ?_
      exact z_zret rfl rfl rfl ⟨rfl, by rw [if_pos (by omega)]⟩
def sRed (n : Nat) : Nat := if n ≤ 64 then 16 else if n ≤ 256 then 32 else if n ≤ 1024 then 64 else 128
theorem rc_redzone (G : zG X) (n : Nat) (hn : n ≤ 10000) : ZM X MX11_redzone 0 100 [.int (nI n)] h (zX h (some (.int (nI (sRed n))))) := by
  have e1 : (64 : Int32).toInt = 64 := rfl
  have e2 : (256 : Int32).toInt = 256 := rfl
  have e3 : (1024 : Int32).toInt = 1024 := rfl
  have e0 := i_nI (n := n) (by omega)
  refine zm_of_z G KX11_redzone rfl rfl ?_
  refine z_go 90 rfl ?_
  refine z_br rfl rfl (fun c => ?_) (fun c => ?_) <;> (try dsimp only at c)
  · rw [i_lt, e0] at c
    refine z_go 90 rfl ?_
    refine z_br rfl rfl (fun d => ?_) (fun d => ?_) <;> (try dsimp only at d)
    · rw [i_lt, e0] at d
      refine z_go 90 rfl ?_
      refine z_br rfl rfl (fun e => ?_) (fun e => ?_) <;> (try dsimp only at e)
      · rw [i_lt, e0] at e
        refine z_go 90 rfl ?_
        exact z_iret rfl rfl ⟨rfl, by unfold sRed; rw [if_neg (by omega), if_neg (by omega), if_neg (by omega)]; rfl⟩
      · rw [i_lt, e0] at e
        refine z_go 90 rfl ?_
        exact z_iret rfl rfl ⟨rfl, by unfold sRed; rw [if_neg (by omega), if_neg (by omega), if_pos (by omega)]; rfl⟩
    · rw [i_lt, e0] at d
      refine z_go 90 rfl ?_
      exact z_iret rfl rfl ⟨rfl, by unfold sRed; rw [if_neg (by omega), if_pos (by omega)]; rfl⟩
  · rw [i_lt, e0] at c
    refine z_go 90 rfl ?_
    exact z_iret rfl rfl ⟨rfl, by unfold sRed; rw [if_pos (by omega)]; rfl⟩
theorem rc_paint (G : zG X) (a b : Nat) (v : Int32) (hb : b ≤ 8192) (hab : a ≤ 8200) : ZM X MX11_paint 0 100 [.ref m, .int (nI a), .int (nI b), .int v] (zr X h m S) (zX (zr X h m (sPaint S a b v)) none) := by
  have e8 : (8 : Int32).toInt = 8 := rfl
  have e7 : (7 : Int32).toInt = 7 := rfl
  have ea := i_nI (n := a) (by omega)
  have eb := i_nI (n := b) (by omega)
  have d1 : nI a / 8 = nI (a / 8) := n_div (b := 8) (by omega) (by omega) (by omega)
  have d2 : (nI b + 7) / 8 = nI ((b + 7) / 8) := by
    rw [show (nI b + 7) = nI (b + 7) from n_add b 7]
    exact n_div (b := 8) (by omega) (by omega) (by omega)
  refine zm_of_z G KX11_paint rfl rfl ?_
  refine z_go 90 rfl ?_
  refine z_div rfl (by decide) ?_
  refine z_go 90 rfl ?_
  refine z_div rfl (by decide) ?_
  refine z_go 90 rfl ?_
  refine z_cong rfl (congrArg (fun x => [_, _, _, _, some (Value.int x)]) d1) (show _ = [.int (nI ((b + 7) / 8)), .int (nI (a / 8))] by rw [← d2, ← d1]) ?_
  refine z_ite (p := a / 8 ≤ (b + 7) / 8) (fun hle => ?_) (fun hle => ?_)
  · refine z_eqS (S' := zV S 4 (fun g => if a / 8 ≤ g ∧ g < a / 8 then v else S 4 g)) ?_ ?_
    · rw [show (fun g => if a / 8 ≤ g ∧ g < a / 8 then v else S 4 g) = S 4 from funext fun g => if_neg (by omega), zV_same]
    refine zdown (P := fun k => a / 8 ≤ k → Z X MX11_paint _ (zr X h m (zV S 4 (fun g => if a / 8 ≤ g ∧ g < k then v else S 4 g))) _ [_, _, _, _, some (Value.int (nI k))] [.int (nI ((b + 7) / 8)), .int (nI k)] _) ((b + 7) / 8) (fun k hk ih hak => ?_) (a / 8) hle (Nat.le_refl _)
    refine z_br rfl rfl (fun c => ?_) (fun c => ?_) <;> (try dsimp only at c)
    · rw [n_le (by omega) (by omega)] at c
      have : k = (b + 7) / 8 := by omega
      subst this
      exact z_vret rfl rfl ⟨rfl, rfl⟩
    · rw [n_le (by omega) (by omega)] at c
      refine z_go 90 rfl ?_
      refine z_get zr_o rfl rfl rfl rfl ?_
      refine z_go 90 rfl ?_
      refine r_st4 k (i_nI (by omega)) (by omega) rfl ?_
      refine z_go 90 rfl ?_
      refine z_div rfl (by decide) ?_
      refine z_go 90 rfl ?_
      refine z_cong ?_ (congrArg (fun x => [_, _, _, _, some (Value.int x)]) (n_succ k)) (show _ = [.int (nI ((b + 7) / 8)), .int (nI (k + 1))] by rw [← d2, ← n_succ]) (ih (by omega) (by omega))
      refine congrArg (zr X h m) ?_
      rw [zV_V]
      refine congrArg (zV S 4) (funext fun g => ?_)
      show (if g = k then v else if a / 8 ≤ g ∧ g < k then v else S 4 g) = if a / 8 ≤ g ∧ g < k + 1 then v else S 4 g
      by_cases c1 : g = k
      · rw [if_pos c1, if_pos (by omega)]
      · by_cases c2 : a / 8 ≤ g ∧ g < k
        · rw [if_neg c1, if_pos c2, if_pos (by omega)]
        · rw [if_neg c1, if_neg c2, if_neg (by omega)]
  · refine z_br rfl rfl (fun c => ?_) (fun c => ?_) <;> (try dsimp only at c)
    · refine z_vret rfl rfl ⟨?_, rfl⟩
      unfold sPaint
      rw [show (fun g => if a / 8 ≤ g ∧ g < (b + 7) / 8 then v else S 4 g) = S 4 from funext fun g => if_neg (by omega), zV_same]
    · rw [n_le (by omega) (by omega)] at c
      omega
end ZRS
end
section
/-- the fields of the reference that hold numbers of 0 to 9999 -/
def sNat (k : Nat) : Bool := !(Nat.beq k 3 || Nat.beq k 21 || Nat.beq k 22 || Nat.beq k 26 || Nat.beq k 29)
def sI0 (S : zS) : Prop := ∀ k i, sNat k = true → 0 ≤ (S k i).toInt ∧ (S k i).toInt < 10000
def sN (S : zS) (k i : Nat) : Nat := (S k i).toInt.toNat
theorem sN_eq {S : zS} (I : sI0 S) {k i : Nat} (hk : sNat k = true) : S k i = nI (sN S k i) := by
  have := I k i hk
  unfold sN
  apply i_ext
  rw [i_nI (by omega)]
  omega
theorem sN_lt {S : zS} (I : sI0 S) {k i : Nat} (hk : sNat k = true) : sN S k i < 10000 := by
  have := I k i hk
  unfold sN
  omega
theorem sN_of {S : zS} {k i n : Nat} (e : S k i = nI n) (hn : n < 2147483648) : sN S k i = n := by
  unfold sN
  rw [e, i_nI hn]
  rfl
theorem sI0_V {S : zS} (I : sI0 S) {k : Nat} {g : Nat → Int32} (hg : sNat k = true → ∀ i, 0 ≤ (g i).toInt ∧ (g i).toInt < 10000) : sI0 (zV S k g) := by
  intro j i hj
  by_cases c : j = k
  · subst c; rw [zV_at]; exact hg hj i
  · rw [zV_ne _ _ c]; exact I j i hj
theorem sI0_u {S : zS} (I : sI0 S) {k j : Nat} {x : Int32} (hx : sNat k = true → 0 ≤ x.toInt ∧ x.toInt < 10000) : sI0 (zV S k (upd (S k) j x)) := by
  refine sI0_V I fun hk i => ?_
  unfold upd
  split
  · exact hx hk
  · exact I k i hk
section ZRM
variable {X : zCx} {h : zHp} {m : Nat} {S : zS}
theorem rc_opens (G : zG X) (a n : Nat) (ha : a % 8 = 0) (hb : a + n ≤ 8192) : ZM X MX11_opens 0 100 [.ref m, .int (nI a), .int (nI n)] (zr X h m S) (zX (zr X h m (sOpen S a n)) none) := by
  refine zm_of_z G KX11_opens rfl rfl ?_
  refine z_go 90 rfl ?_
  refine z_eqS (S' := zV S 4 (fun g => if a / 8 ≤ g ∧ g < a / 8 + 0 then (if 8 * g + 8 ≤ a + n then 0 else nI (a + n - 8 * g)) else S 4 g)) ?_ ?_
  · rw [show (fun g => if a / 8 ≤ g ∧ g < a / 8 + 0 then (if 8 * g + 8 ≤ a + n then 0 else nI (a + n - 8 * g)) else S 4 g) = S 4 from funext fun g => if_neg (by omega), zV_same]
  refine zdown (P := fun k => Z X MX11_opens _ (zr X h m (zV S 4 (fun g => if a / 8 ≤ g ∧ g < a / 8 + k then (if 8 * g + 8 ≤ a + n then 0 else nI (a + n - 8 * g)) else S 4 g))) _ [_, _, _, some (Value.int (nI (8 * k)))] [.int (nI n), .int (nI (8 * k))] _) ((n + 7) / 8) (fun k hk ih => ?_) 0 (Nat.zero_le _)
  refine z_br rfl rfl (fun c => ?_) (fun c => ?_) <;> (try dsimp only at c)
  · rw [n_le (by omega) (by omega)] at c
    refine z_vret rfl rfl ⟨?_, rfl⟩
    unfold sOpen
    refine congrArg (fun z => zr X h m (zV S 4 z)) (funext fun g => ?_)
    by_cases c2 : a / 8 ≤ g ∧ 8 * g < a + n
    · rw [if_pos c2, if_pos (by omega)]
    · rw [if_neg c2, if_neg (by omega)]
  · rw [n_le (by omega) (by omega)] at c
    refine z_go 90 rfl ?_
    refine z_get zr_o rfl rfl rfl rfl ?_
    refine z_go 90 rfl ?_
    rw [n_add]
    refine z_div rfl (by decide) ?_
    refine z_go 90 rfl ?_
    rw [show nI (a + 8 * k) / (8 : Int32) = nI ((a + 8 * k) / 8) from n_div (b := 8) (by omega) (by omega) (by omega)]
    rw [n_sub (show 8 * k ≤ n by omega) (by omega)]
    have hlt : k < (n + 7) / 8 := by omega
    have ix : (a + 8 * k) / 8 = a / 8 + k := by omega
    have step : ∀ v : Int32, v = (if 8 * (a / 8 + k) + 8 ≤ a + n then 0 else nI (a + n - 8 * (a / 8 + k))) → zV (zV S 4 (fun g => if a / 8 ≤ g ∧ g < a / 8 + k then (if 8 * g + 8 ≤ a + n then 0 else nI (a + n - 8 * g)) else S 4 g)) 4 (upd (fun g => if a / 8 ≤ g ∧ g < a / 8 + k then (if 8 * g + 8 ≤ a + n then 0 else nI (a + n - 8 * g)) else S 4 g) ((a + 8 * k) / 8) v) = zV S 4 (fun g => if a / 8 ≤ g ∧ g < a / 8 + (k + 1) then (if 8 * g + 8 ≤ a + n then 0 else nI (a + n - 8 * g)) else S 4 g) := by
      intro v hv
      rw [zV_V, ix]
      refine congrArg (zV S 4) (funext fun g => ?_)
      dsimp only [upd]
      by_cases c1 : g = a / 8 + k
      · rw [if_pos c1, if_pos (by omega), hv, c1]
      · rw [if_neg c1]
        by_cases c2 : a / 8 ≤ g ∧ g < a / 8 + k
        · rw [if_pos c2, if_pos (show a / 8 ≤ g ∧ g < a / 8 + (k + 1) by omega)]
        · rw [if_neg c2, if_neg (show ¬ (a / 8 ≤ g ∧ g < a / 8 + (k + 1)) by omega)]
    have e9 : nI (8 * k) + 8 = nI (8 * (k + 1)) := n_add (8 * k) 8
    refine z_br rfl rfl (fun d => ?_) (fun d => ?_) <;> (try dsimp only at d)
    · rw [show (8 : Int32) = nI 8 from rfl, n_lt (by omega) (by omega)] at d
      refine z_go 90 rfl ?_
      rw [n_sub (show 8 * k ≤ n by omega) (by omega)]
      refine r_st4 ((a + 8 * k) / 8) (i_nI (by omega)) (by omega) rfl ?_
      refine z_go 90 rfl ?_
      refine z_cong (congrArg (zr X h m) (step _ (by rw [if_neg (by omega)]; exact congrArg nI (by omega)))) (congrArg (fun x => [_, _, _, some (Value.int x)]) e9) (congrArg (fun x => [_, Value.int x]) e9) (ih hlt)
    · rw [show (8 : Int32) = nI 8 from rfl, n_lt (by omega) (by omega)] at d
      refine z_go 90 rfl ?_
      refine r_st4 ((a + 8 * k) / 8) (i_nI (by omega)) (by omega) rfl ?_
      refine z_go 90 rfl ?_
      refine z_cong (congrArg (zr X h m) (step _ (by rw [if_pos (by omega)]))) (congrArg (fun x => [_, _, _, some (Value.int x)]) e9) (congrArg (fun x => [_, Value.int x]) e9) (ih hlt)
/-- global -/
def sGat (S : zS) : Nat := if sN S 7 0 = 0 then 0 else (sN S 5 (sN S 7 0 - 1) + sN S 6 (sN S 7 0 - 1) + 32 + 31) / 32 * 32
def sGlob (S : zS) (n : Nat) : zS := sOpen (zV (zV (zV S 5 (upd (S 5) (sN S 7 0) (nI (sGat S)))) 7 (fun _ => nI (sN S 7 0 + 1))) 6 (upd (S 6) (sN S 7 0) (nI n))) (sGat S) n
def sGlobB (S : zS) (n : Nat) : Int32 × zS := if sGat S + n + 32 ≤ sN S 1 0 / 8 then (nI (sGat S), sGlob S n) else (-1, S)
def sThrow (S : zS) (w : Int32) : zS := zV S 0 (fun _ => w)
theorem rc_global1 (G : zG X) (n : Nat) (I : sI0 S) (h1 : 1 ≤ n) (h2 : n ≤ 512) (hN : sN S 1 0 ≤ 8192) (hg : sN S 7 0 < 40) : Z X MX11_global (1, 127, h.2.1, h.2.2) (zr X h m S) 28 [some (.ref m), some (.int (nI n)), some (.int (nI 0))] [] (zX (zr X h m (sGlobB S n).2) (some (.int (sGlobB S n).1))) := by
  have e7 : S 7 0 = nI (sN S 7 0) := sN_eq I rfl
  have e1 : S 1 0 = nI (sN S 1 0) := sN_eq I rfl
  have hb1 : sN S 5 (sN S 7 0 - 1) < 10000 := sN_lt I rfl
  have hb2 : sN S 6 (sN S 7 0 - 1) < 10000 := sN_lt I rfl
  have hat : sGat S < 30000 := by unfold sGat; split <;> omega
  have H : ∀ x : Int32, x = nI (sGat S) → Z X MX11_global (1, 127, h.2.1, h.2.2) (zr X h m S) 78 [some (.ref m), some (.int (nI n)), some (.int x)] [.ref m, .int (x + nI n + 32)] (zX (zr X h m (sGlobB S n).2) (some (.int (sGlobB S n).1))) := by
    rintro x rfl
    rw [n_add, show nI (sGat S + n) + (32 : Int32) = nI (sGat S + n + 32) from n_add _ 32]
    refine r_v1 e1 rfl rfl rfl ?_
    refine z_go 90 rfl ?_
    refine z_div rfl (by decide) ?_
    refine z_go 90 rfl ?_
    rw [show nI (sN S 1 0) / (8 : Int32) = nI (sN S 1 0 / 8) from n_div (b := 8) (by omega) (by omega) (by omega)]
    refine z_br rfl rfl (fun c => ?_) (fun c => ?_) <;> (try dsimp only at c)
    · rw [n_le (by omega) (by omega)] at c
      refine z_go 90 rfl ?_
      refine z_get zr_o rfl rfl rfl rfl ?_
      refine z_go 90 rfl ?_
      refine r_v7 e7 rfl rfl rfl ?_
      refine z_go 90 rfl ?_
      refine r_st5 (sN S 7 0) (i_nI (by omega)) hg rfl ?_
      refine z_go 90 rfl ?_
      refine z_get zr_o rfl rfl rfl rfl ?_
      refine z_go 90 rfl ?_
      refine r_v7 e7 rfl rfl rfl ?_
      refine z_go 90 rfl ?_
      refine r_p7 rfl rfl rfl ?_
      refine z_go 90 rfl ?_
      refine r_st6 (sN S 7 0) (i_nI (by omega)) hg rfl ?_
      refine z_go 90 rfl ?_
      rw [show nI (sN S 7 0) + (1 : Int32) = nI (sN S 7 0 + 1) from n_add _ 1]
      refine z_cV zr_o (rc_opens G (sGat S) n (by unfold sGat; split <;> omega) (by omega)) KX11_opens IX11_opens VX11_opens rfl rfl rfl PX11_opens rfl rfl rfl rfl ?_
      refine z_go 90 rfl ?_
      refine z_iret rfl rfl ?_
      unfold sGlobB
      rw [if_pos c]
      exact ⟨rfl, rfl⟩
    · rw [n_le (by omega) (by omega)] at c
      refine z_go 90 rfl ?_
      refine z_iret rfl rfl ?_
      unfold sGlobB
      rw [if_neg c]
      exact ⟨rfl, rfl⟩
  refine z_go 90 rfl ?_
  refine r_v7 e7 rfl rfl rfl ?_
  refine z_go 90 rfl ?_
  refine z_br rfl rfl (fun c => ?_) (fun c => ?_) <;> (try dsimp only at c)
  · rw [show (0 : Int32) = nI 0 from rfl, n_le (by omega) (by omega)] at c
    refine z_go 90 rfl ?_
    exact H _ (congrArg nI (show 0 = sGat S by unfold sGat; rw [if_pos (by omega)]))
  · rw [show (0 : Int32) = nI 0 from rfl, n_le (by omega) (by omega)] at c
    refine z_go 90 rfl ?_
    refine z_get zr_o rfl rfl rfl rfl ?_
    refine z_go 90 rfl ?_
    refine r_v7 e7 rfl rfl rfl ?_
    refine z_go 90 rfl ?_
    rw [show nI (sN S 7 0) - (1 : Int32) = nI (sN S 7 0 - 1) from n_sub (b := 1) (by omega) (by omega)]
    refine r_lv5 (sN S 7 0 - 1) (sN_eq I rfl) (i_nI (by omega)) (by omega) rfl ?_
    refine z_go 90 rfl ?_
    refine z_get zr_o rfl rfl rfl rfl ?_
    refine z_go 90 rfl ?_
    refine r_v7 e7 rfl rfl rfl ?_
    refine z_go 90 rfl ?_
    rw [show nI (sN S 7 0) - (1 : Int32) = nI (sN S 7 0 - 1) from n_sub (b := 1) (by omega) (by omega)]
    refine r_lv6 (sN S 7 0 - 1) (sN_eq I rfl) (i_nI (by omega)) (by omega) rfl ?_
    refine z_go 90 rfl ?_
    refine z_div rfl (by decide) ?_
    refine z_go 90 rfl ?_
    have e : (nI (sN S 5 (sN S 7 0 - 1)) + nI (sN S 6 (sN S 7 0 - 1)) + nI 32 + nI 31) / nI 32 * nI 32 = nI (sGat S) := by
      rw [n_add, n_add, n_add, n_div (by omega) (by omega) (by omega), n_mul]
      exact congrArg nI (by unfold sGat; rw [if_neg (by omega)])
    exact H _ e
def sGlobal (S : zS) (p : Int32) : Int32 × zS := if 1 ≤ p.toInt ∧ p.toInt ≤ 512 then sGlobB (sThrow S 0) p.toInt.toNat else (0, sThrow S 1)
theorem sI0_T {S : zS} (I : sI0 S) (w : Int32) (hw : 0 ≤ w.toInt ∧ w.toInt < 10000) : sI0 (sThrow S w) := sI0_V I (fun _ _ => hw)
/-- refuses(why), and the road behind it -/
theorem rr_no {M : zMI} {f : zFr} {L : zLo} {Q : zRs → zHp → Prop} {pc p0 idx nx t p1 nx1 t1 : Nat} {lv lv1 : Int32} {o : Int} (G : zG X) (hf : zlk (zFt M) pc = some (p0, .invokevirtual idx, nx, lv, t)) (hr : zML[t]? = some ((zNm M).cls, idx, yX11_refuses)) (hfr : Nat.ble 1 f.1 = true) (hlc : Nat.ble 121 f.2.1 = true) (hf1 : zlk (zFt M) nx = some (p1, .ifCond .eq o, nx1, lv1, t1)) (kk : Z X M f (zr X h m (sThrow S 0)) t1 L [] Q) : Z X M f (zr X h m S) pc L [.int 0, .ref m] Q := by
  refine z_cV zr_o (rc_refuses G 0) KX11_refuses IX11_refuses VX11_refuses rfl hf hr PX11_refuses hfr hlc rfl rfl ?_
  refine z_br hf1 rfl (fun c => kk) (fun c => ?_)
  exact absurd rfl c
theorem rr_yes {M : zMI} {f : zFr} {L : zLo} {Q : zRs → zHp → Prop} {pc p0 idx nx t p1 nx1 t1 : Nat} {lv lv1 w : Int32} {o : Int} (G : zG X) (hw : w ≠ 0) (hf : zlk (zFt M) pc = some (p0, .invokevirtual idx, nx, lv, t)) (hr : zML[t]? = some ((zNm M).cls, idx, yX11_refuses)) (hfr : Nat.ble 1 f.1 = true) (hlc : Nat.ble 121 f.2.1 = true) (hf1 : zlk (zFt M) nx = some (p1, .ifCond .eq o, nx1, lv1, t1)) (kk : Z X M f (zr X h m (sThrow S w)) nx1 L [] Q) : Z X M f (zr X h m S) pc L [.int w, .ref m] Q := by
  refine z_cV zr_o (rc_refuses G w) KX11_refuses IX11_refuses VX11_refuses rfl hf hr PX11_refuses hfr hlc rfl rfl ?_
  refine z_br hf1 rfl (fun c => ?_) (fun c => kk)
  rw [if_neg hw] at c
  exact absurd c (by decide)
theorem rc_global (G : zG X) (p : Int32) (I : sI0 S) (hN : sN S 1 0 ≤ 8192) (hg : sN S 7 0 < 40) : ZM X MX11_global 1 127 [.ref m, .int p] (zr X h m S) (zX (zr X h m (sGlobal S p).2) (some (.int (sGlobal S p).1))) := by
  have q1 : (1 : Int32).toInt = 1 := rfl
  have q2 : (512 : Int32).toInt = 512 := rfl
  refine zm_of_z G KX11_global rfl rfl ?_
  refine z_go 90 rfl ?_
  have bad : ¬ (1 ≤ p.toInt ∧ p.toInt ≤ 512) → Z X MX11_global (1, 127, h.2.1, h.2.2) (zr X h m S) 18 [some (.ref m), some (.int p), none] [.int 1, .ref m] (zX (zr X h m (sGlobal S p).2) (some (.int (sGlobal S p).1))) := by
    intro hb
    refine rr_yes G (by decide) rfl rfl rfl rfl rfl ?_
    refine z_go 90 rfl ?_
    refine z_iret rfl rfl ?_
    unfold sGlobal
    rw [if_neg hb]
    exact ⟨rfl, rfl⟩
  refine z_br rfl rfl (fun c => ?_) (fun c => ?_) <;> (try dsimp only at c)
  · rw [i_lt] at c
    refine z_go 90 rfl ?_
    exact bad (by omega)
  · rw [i_lt] at c
    refine z_go 90 rfl ?_
    refine z_br rfl rfl (fun d => ?_) (fun d => ?_) <;> (try dsimp only at d)
    · rw [i_le] at d
      refine z_go 90 rfl ?_
      refine rr_no G rfl rfl rfl rfl rfl ?_
      refine z_go 2 rfl ?_
      obtain ⟨n, rfl, hn⟩ := i_nat (x := p) (by omega)
      rw [i_nI hn] at c d
      have H := rc_global1 (X := X) (h := h) (m := m) (S := sThrow S 0) G n (sI0_T I 0 (by decide)) (by omega) (by omega) hN hg
      have e : sGlobal S (nI n) = sGlobB (sThrow S 0) n := by
        unfold sGlobal
        rw [i_nI hn, if_pos (by omega)]
        rfl
      rw [e]
      exact H
    · rw [i_le] at d
      refine z_go 90 rfl ?_
      exact bad (by omega)
end ZRM
end
section
/-! the first of a row; sums; choices -/
noncomputable def zif {α : Type} (p : Prop) (a b : α) : α := @ite _ p (Classical.propDecidable p) a b
theorem zif_pos {α : Type} {p : Prop} {a b : α} (h : p) : zif p a b = a := by unfold zif; exact if_pos h
theorem zif_neg {α : Type} {p : Prop} {a b : α} (h : ¬ p) : zif p a b = b := by unfold zif; exact if_neg h
noncomputable def zFst (P : Nat → Prop) : Nat → Option Nat
  | 0 => none
  | n + 1 => match zFst P n with
    | some k => some k
    | none => zif (P n) (some n) none
theorem zFst_none {P : Nat → Prop} {n : Nat} : zFst P n = none ↔ ∀ j, j < n → ¬ P j := by
  induction n with
  | zero => exact ⟨fun _ j hj => by omega, fun _ => rfl⟩
  | succ n ih =>
    unfold zFst
    cases hq : zFst P n with
    | some k =>
      refine ⟨fun h => (by cases h), fun h => ?_⟩
      have := ih.mpr (fun j hj => h j (by omega))
      rw [this] at hq
      cases hq
    | none =>
      have h9 := ih.mp hq
      by_cases c : P n
      · show zif _ _ _ = none ↔ _
        rw [zif_pos c]
        exact ⟨fun h => (by cases h), fun h => absurd c (h n (by omega))⟩
      · show zif _ _ _ = none ↔ _
        rw [zif_neg c]
        refine ⟨fun _ j hj => ?_, fun _ => rfl⟩
        by_cases e : j = n
        · rw [e]; exact c
        · exact h9 j (by omega)
theorem zFst_some {P : Nat → Prop} {n k : Nat} : zFst P n = some k ↔ k < n ∧ P k ∧ ∀ j, j < k → ¬ P j := by
  induction n with
  | zero => exact ⟨fun h => (by cases h), fun h => by omega⟩
  | succ n ih =>
    unfold zFst
    cases hq : zFst P n with
    | some k' =>
      have h9 := hq
      have h8 : k' < n ∧ P k' ∧ ∀ j, j < k' → ¬ P j := by
        have : ∀ n, zFst P n = some k' → k' < n ∧ P k' ∧ ∀ j, j < k' → ¬ P j := by
          intro n
          induction n with
          | zero => intro h; cases h
          | succ n ih2 =>
            intro h
            unfold zFst at h
            cases hq2 : zFst P n with
            | some k2 =>
              rw [hq2] at h
              cases h
              obtain ⟨a, b⟩ := ih2 hq2
              exact ⟨by omega, b⟩
            | none =>
              rw [hq2] at h
              by_cases c : P n
              · have h' : zif (P n) (some n) none = some k' := h
                rw [zif_pos c] at h'
                cases h'
                exact ⟨by omega, c, zFst_none.mp hq2⟩
              · have h' : zif (P n) (some n) none = some k' := h
                rw [zif_neg c] at h'
                cases h'
        exact this n h9
      constructor
      · intro h
        cases h
        exact ⟨by omega, h8.2⟩
      · intro h
        refine congrArg some ?_
        rcases Nat.lt_trichotomy k k' with c | c | c
        · exact absurd h.2.1 (h8.2.2 k c)
        · exact c.symm
        · exact absurd h8.2.1 (h.2.2 k' c)
    | none =>
      have h9 := zFst_none.mp hq
      by_cases c : P n
      · show zif _ _ _ = some k ↔ _
        rw [zif_pos c]
        constructor
        · intro h
          cases h
          exact ⟨by omega, c, h9⟩
        · intro h
          refine congrArg some ?_
          rcases Nat.lt_trichotomy k n with d | d | d
          · exact absurd h.2.1 (h9 k d)
          · exact d.symm
          · omega
      · show zif _ _ _ = some k ↔ _
        rw [zif_neg c]
        refine ⟨fun h => (by cases h), fun h => ?_⟩
        by_cases d : k = n
        · subst d; exact absurd h.2.1 c
        · exact absurd h.2.1 (h9 k (by omega))
def zSum (g : Nat → Nat) : Nat → Nat
  | 0 => 0
  | n + 1 => zSum g n + g n
theorem zSum_le {g : Nat → Nat} {b : Nat} (h : ∀ i, g i ≤ b) (n : Nat) : zSum g n ≤ n * b := by
  induction n with
  | zero => exact Nat.zero_le _
  | succ n ih => show zSum g n + g n ≤ _; have := h n; rw [Nat.succ_mul]; omega
def zoI (r : Option Nat) : Int32 := match r with
  | some k => nI k
  | none => -1
/-! what holds of the reference's state between calls -/
def sIn (S : zS) : Prop := 1024 ≤ sN S 1 0 ∧ sN S 1 0 ≤ 8192 ∧ sN S 1 0 % 64 = 0 ∧ sN S 2 0 ≤ sN S 1 0
def sIg (S : zS) : Prop := sN S 7 0 ≤ 16 ∧ ∀ k, k < sN S 7 0 → sN S 5 k % 32 = 0 ∧ 1 ≤ sN S 6 k ∧ sN S 6 k ≤ 512 ∧ sN S 5 k + sN S 6 k + 32 ≤ sN S 1 0 / 8 ∧ 64 * k ≤ sN S 5 k
def sPad (n : Nat) : Nat := (n + 31) / 32 * 32 + 32
def sIv (S : zS) (f v : Nat) : Prop := sN S 11 v % 8 = 0 ∧ 1 ≤ sN S 12 v ∧ sN S 12 v ≤ 128 ∧ sN S 8 f + 32 ≤ sN S 11 v ∧ sN S 11 v + sPad (sN S 12 v) ≤ sN S 9 f ∧ sN S 13 v ≤ 1
def sIf (S : zS) : Prop := sN S 14 0 ≤ 10 ∧ ∀ f, f < sN S 14 0 → sN S 1 0 / 8 ≤ sN S 8 f ∧ sN S 8 f + 96 * (f + 1) ≤ sN S 1 0 / 4 ∧ sN S 8 f ≤ sN S 9 f ∧ sN S 9 f = (if f = 0 then sN S 1 0 / 4 else sN S 8 (f - 1)) ∧ sN S 8 f % 8 = 0 ∧ sN S 9 f % 8 = 0 ∧ 1 ≤ sN S 10 f ∧ sN S 10 f ≤ 4 ∧ ∀ j, j < sN S 10 f → sIv S f (4 * f + j)
def sCh (n : Nat) : Nat := sRed n + (n + 15) / 16 * 16 + 16
def sIb (S : zS) : Prop := (∀ b, b < sN S 23 0 → sN S 19 b % 16 = 0 ∧ sN S 1 0 / 4 ≤ sN S 19 b ∧ sN S 19 b + sN S 20 b ≤ sN S 1 0 ∧ sN S 20 b = sCh (sN S 16 b) ∧ sN S 15 b = sN S 19 b + sRed (sN S 16 b) ∧ sN S 16 b ≤ sN S 1 0 ∧ sN S 17 b ≤ 2 ∧ sN S 18 b ≤ 2) ∧ ∀ b c, b < sN S 23 0 → c < sN S 23 0 → b ≠ c → sN S 18 b ≠ 2 → sN S 18 c ≠ 2 → sN S 19 b + sN S 20 b ≤ sN S 19 c ∨ sN S 19 c + sN S 20 c ≤ sN S 19 b
def sIq (S : zS) : Prop := (∀ i, i < sN S 25 0 → sN S 24 i < sN S 23 0 ∧ sN S 18 (sN S 24 i) = 1) ∧ ∀ i j, i < sN S 25 0 → j < sN S 25 0 → sN S 24 i = sN S 24 j → i = j
def sIh (S : zS) : Prop := ∀ g, sN S 4 g ≤ 255 ∧ (1 ≤ sN S 4 g → sN S 4 g ≤ 7 → g + 1 < sN S 1 0 / 8)
def sIm (S : zS) : Prop := ∀ i, (S 3 i).toInt8.toInt32 = S 3 i
def sIc (S : zS) (c : Nat) : Prop := c ≤ 512 ∧ sN S 23 0 ≤ c ∧ sN S 25 0 ≤ c ∧ sN S 27 0 ≤ c
def sInv (S : zS) (c : Nat) : Prop := sI0 S ∧ sIn S ∧ sIg S ∧ sIf S ∧ sIb S ∧ sIq S ∧ sIh S ∧ sIm S ∧ sIc S c
section ZRE
variable {X : zCx} {h : zHp} {m : Nat} {S : zS} {cc : Nat}
/-- leave -/
def sLeave (S : zS) : Int32 × zS := if sN S 14 0 = 0 then (0, sThrow S 1) else (nI (sN S 14 0 - 1), sPaint (zV (sThrow S 0) 14 (fun _ => nI (sN S 14 0 - 1))) (sN S 8 (sN S 14 0 - 1)) (sN S 9 (sN S 14 0 - 1)) 245)
theorem rc_leave (G : zG X) (I : sInv S cc) : ZM X MX11_leave 1 127 [.ref m] (zr X h m S) (zX (zr X h m (sLeave S).2) (some (.int (sLeave S).1))) := by
  obtain ⟨I0, In, Ig, If, -⟩ := I
  have e14 : S 14 0 = nI (sN S 14 0) := sN_eq I0 rfl
  have f1 := If.1
  refine zm_of_z G KX11_leave rfl rfl ?_
  refine z_go 90 rfl ?_
  refine r_v14 e14 rfl rfl rfl ?_
  refine z_go 90 rfl ?_
  refine z_br rfl rfl (fun c => ?_) (fun c => ?_) <;> (try dsimp only at c)
  · rw [show (0 : Int32) = nI 0 from rfl, n_eq (by omega) (by omega)] at c
    refine z_go 90 rfl ?_
    refine rr_no G rfl rfl rfl rfl rfl ?_
    refine z_go 90 rfl ?_
    refine r_v14 e14 rfl rfl rfl ?_
    refine z_go 90 rfl ?_
    rw [show nI (sN S 14 0) - (1 : Int32) = nI (sN S 14 0 - 1) from n_sub (b := 1) (by omega) (by omega)]
    refine r_p14 rfl rfl rfl ?_
    refine z_go 90 rfl ?_
    obtain ⟨g1, g2, g3, g4, g5, g6, -⟩ := If.2 (sN S 14 0 - 1) (by omega)
    have hN := In.2.1
    refine z_get zr_o rfl rfl rfl rfl ?_
    refine z_go 90 rfl ?_
    refine r_v14 rfl rfl rfl rfl ?_
    refine z_go 90 rfl ?_
    refine r_lv8 (sN S 14 0 - 1) (sN_eq I0 rfl) (i_nI (by omega)) (by omega) rfl ?_
    refine z_go 90 rfl ?_
    refine z_get zr_o rfl rfl rfl rfl ?_
    refine z_go 90 rfl ?_
    refine r_v14 rfl rfl rfl rfl ?_
    refine z_go 90 rfl ?_
    refine r_lv9 (sN S 14 0 - 1) (sN_eq I0 rfl) (i_nI (by omega)) (by omega) rfl ?_
    refine z_go 90 rfl ?_
    have g7 : sN S 9 (sN S 14 0 - 1) ≤ 8192 := by
      rw [g4]
      split
      · omega
      · have := (If.2 (sN S 14 0 - 1 - 1) (by omega)).2.1
        omega
    refine z_cV zr_o (rc_paint G (sN S 8 (sN S 14 0 - 1)) (sN S 9 (sN S 14 0 - 1)) 245 g7 (by omega)) KX11_paint IX11_paint VX11_paint rfl rfl rfl PX11_paint rfl rfl rfl rfl ?_
    refine z_go 90 rfl ?_
    refine r_v14 rfl rfl rfl rfl ?_
    refine z_go 90 rfl ?_
    refine z_iret rfl rfl ?_
    unfold sLeave
    rw [if_neg c]
    exact ⟨rfl, rfl⟩
  · rw [show (0 : Int32) = nI 0 from rfl, n_eq (by omega) (by omega)] at c
    refine z_go 90 rfl ?_
    refine rr_yes G (by decide) rfl rfl rfl rfl rfl ?_
    refine z_go 90 rfl ?_
    refine z_iret rfl rfl ?_
    unfold sLeave
    rw [if_pos c]
    exact ⟨rfl, rfl⟩
def sNoV (S : zS) (p q : Int32) : Prop := p.toInt < 0 ∨ (sN S 14 0 : Int) ≤ p.toInt ∨ q.toInt < 0 ∨ (sN S 10 p.toInt.toNat : Int) ≤ q.toInt
theorem rc_noVar (G : zG X) (I : sInv S cc) (p q : Int32) : ZM X MX11_noVariable 0 100 [.ref m, .int p, .int q] (zr X h m S) (zX (zr X h m S) (some (.int (zif (sNoV S p q) 1 0)))) := by
  obtain ⟨I0, In, Ig, If, -⟩ := I
  have e14 : S 14 0 = nI (sN S 14 0) := sN_eq I0 rfl
  have f1 := If.1
  have q0 : (0 : Int32).toInt = 0 := rfl
  have t14 := i_nI (n := sN S 14 0) (by omega)
  refine zm_of_z G KX11_noVariable rfl rfl ?_
  refine z_go 90 rfl ?_
  refine z_br rfl rfl (fun c => ?_) (fun c => ?_) <;> (try dsimp only at c)
  · rw [i_lt] at c
    refine z_go 90 rfl ?_
    exact z_zret rfl rfl rfl ⟨rfl, by rw [zif_pos (p := sNoV S p q) (by unfold sNoV; omega)]⟩
  · rw [i_lt] at c
    refine z_go 90 rfl ?_
    refine r_v14 e14 rfl rfl rfl ?_
    refine z_go 90 rfl ?_
    refine z_br rfl rfl (fun d => ?_) (fun d => ?_) <;> (try dsimp only at d)
    · rw [i_le] at d
      refine z_go 90 rfl ?_
      exact z_zret rfl rfl rfl ⟨rfl, by rw [zif_pos (p := sNoV S p q) (by unfold sNoV; omega)]⟩
    · rw [i_le] at d
      refine z_go 90 rfl ?_
      refine z_br rfl rfl (fun e => ?_) (fun e => ?_) <;> (try dsimp only at e)
      · rw [i_lt] at e
        refine z_go 90 rfl ?_
        exact z_zret rfl rfl rfl ⟨rfl, by rw [zif_pos (p := sNoV S p q) (by unfold sNoV; omega)]⟩
      · rw [i_lt] at e
        refine z_go 90 rfl ?_
        refine z_get zr_o rfl rfl rfl rfl ?_
        refine z_go 90 rfl ?_
        refine r_lv10 p.toInt.toNat (sN_eq I0 rfl) (by omega) (by omega) rfl ?_
        refine z_go 90 rfl ?_
        have t10 := i_nI (n := sN S 10 p.toInt.toNat) (by have := sN_lt I0 (k := 10) (i := p.toInt.toNat) rfl; omega)
        refine z_br rfl rfl (fun k => ?_) (fun k => ?_) <;> (try dsimp only at k)
        · rw [i_lt] at k
          refine z_go 90 rfl ?_
          exact z_zret rfl rfl rfl ⟨rfl, by rw [zif_neg (by unfold sNoV; omega)]⟩
        · rw [i_lt] at k
          refine z_go 90 rfl ?_
          exact z_zret rfl rfl rfl ⟨rfl, by rw [zif_pos (p := sNoV S p q) (by unfold sNoV; omega)]⟩
theorem zif_b (p : Prop) : narrow .boolean (.int (zif p 1 0)) = .int (zif p 1 0) := by
  by_cases c : p
  · rw [zif_pos c]; rfl
  · rw [zif_neg c]; rfl
theorem sVar_b (I : sInv S cc) {p q : Int32} (h : ¬ sNoV S p q) : ∃ f j, p = nI f ∧ q = nI j ∧ f < sN S 14 0 ∧ j < sN S 10 f ∧ 4 * f + j < 44 ∧ sIv S f (4 * f + j) ∧ sN S 9 f ≤ 2048 := by
  obtain ⟨I0, In, Ig, If, -⟩ := I
  unfold sNoV at h
  obtain ⟨f, rfl, hf⟩ := i_nat (x := p) (by omega)
  obtain ⟨j, rfl, hj⟩ := i_nat (x := q) (by omega)
  rw [i_nI hf, i_nI hj] at h
  have hf2 : f < sN S 14 0 := by omega
  have hj2 : j < sN S 10 f := by
    have : ((f : Int).toNat) = f := by omega
    rw [this] at h
    omega
  have f1 := If.1
  obtain ⟨g1, g2, g3, g4, g5, g6, g7, g8, g9⟩ := If.2 f hf2
  refine ⟨f, j, rfl, rfl, hf2, hj2, by omega, g9 j hj2, ?_⟩
  have := In.2.1
  rw [g4]
  split
  · omega
  · have := (If.2 (f - 1) (by omega)).2.1
    omega
/-- scope -/
noncomputable def sScope (S : zS) (p q w : Int32) : Int32 × zS := zif (sNoV S p q) (0, sThrow S 1)
  (if S 13 (4 * p.toInt.toNat + q.toInt.toNat) = w then (1, if w = 0 then sPaint (zV (sThrow S 0) 13 (upd (S 13) (4 * p.toInt.toNat + q.toInt.toNat) 1)) (sN S 11 (4 * p.toInt.toNat + q.toInt.toNat)) (sN S 11 (4 * p.toInt.toNat + q.toInt.toNat) + sN S 12 (4 * p.toInt.toNat + q.toInt.toNat)) 248 else sOpen (zV (sThrow S 0) 13 (upd (S 13) (4 * p.toInt.toNat + q.toInt.toNat) 0)) (sN S 11 (4 * p.toInt.toNat + q.toInt.toNat)) (sN S 12 (4 * p.toInt.toNat + q.toInt.toNat))) else (0, sThrow S 0))
theorem rc_scope (G : zG X) (I : sInv S cc) (p q w : Int32) : ZM X MX11_scope 1 127 [.ref m, .int p, .int q, .int w] (zr X h m S) (zX (zr X h m (sScope S p q w).2) (some (.int (sScope S p q w).1))) := by
  have I0 := I.1
  refine zm_of_z G KX11_scope rfl rfl ?_
  refine z_go 90 rfl ?_
  refine z_cV zr_o (rc_noVar G I p q) KX11_noVariable IX11_noVariable VX11_noVariable rfl rfl rfl PX11_noVariable rfl rfl rfl rfl ?_
  refine z_go 90 rfl ?_
  refine z_ite (p := sNoV S p q) (fun nv => ?_) (fun nv => ?_)
  · rw [zif_pos nv]
    refine z_br rfl rfl (fun c => ?_) (fun c => ?_) <;> (try dsimp only at c)
    · exact absurd c (by decide)
    · refine z_go 90 rfl ?_
      refine rr_yes G (by decide) rfl rfl rfl rfl rfl ?_
      refine z_go 90 rfl ?_
      refine z_zret rfl rfl rfl ?_
      unfold sScope
      rw [zif_pos nv]
      exact ⟨rfl, rfl⟩
  · rw [zif_neg nv]
    refine z_br rfl rfl (fun c => ?_) (fun c => ?_) <;> (try dsimp only at c)
    · refine z_go 90 rfl ?_
      refine rr_no G rfl rfl rfl rfl rfl ?_
      obtain ⟨f, j, rfl, rfl, hf, hj, hv, ⟨v1, v2, v3, v4, v5, v6⟩, v7⟩ := sVar_b I nv
      have f1 := I.2.2.2.1.1
      have e10 := sN_lt I0 (k := 10) (i := f) rfl
      have hpd : sN S 12 (4 * f + j) + 32 ≤ sPad (sN S 12 (4 * f + j)) := by unfold sPad; omega
      have hS : sScope S (nI f) (nI j) w = (if S 13 (4 * f + j) = w then (1, if w = 0 then sPaint (zV (sThrow S 0) 13 (upd (S 13) (4 * f + j) 1)) (sN S 11 (4 * f + j)) (sN S 11 (4 * f + j) + sN S 12 (4 * f + j)) 248 else sOpen (zV (sThrow S 0) 13 (upd (S 13) (4 * f + j) 0)) (sN S 11 (4 * f + j)) (sN S 12 (4 * f + j))) else (0, sThrow S 0)) := by
        unfold sScope
        rw [zif_neg nv, i_nI (show f < 2147483648 by omega), i_nI (show j < 2147483648 by omega)]
        rfl
      rw [hS]
      refine z_go 90 rfl ?_
      rw [show (4 : Int32) * nI f + nI j = nI (4 * f + j) from by rw [show (4 : Int32) = nI 4 from rfl, n_mul, n_add]]
      refine z_get zr_o rfl rfl rfl rfl ?_
      refine z_go 90 rfl ?_
      refine r_ld13 (4 * f + j) (i_nI (by omega)) (by omega) rfl ?_
      refine z_go 90 rfl ?_
      refine z_br rfl rfl (fun d => ?_) (fun d => ?_) <;> (try dsimp only at d)
      · have d' : S 13 (4 * f + j) = w := d
        rw [if_pos d']
        refine z_go 90 rfl ?_
        refine z_get zr_o rfl rfl rfl rfl ?_
        refine z_go 90 rfl ?_
        refine z_br rfl rfl (fun e => ?_) (fun e => ?_) <;> (try dsimp only at e)
        · refine z_go 90 rfl ?_
          refine r_st13 (4 * f + j) (i_nI (by omega)) (by omega) rfl ?_
          refine z_go 90 rfl ?_
          refine z_br rfl rfl (fun k => ?_) (fun k => ?_) <;> (try dsimp only at k)
          · exact absurd k e
          · refine z_go 90 rfl ?_
            rw [if_neg e]
            refine z_get zr_o rfl rfl rfl rfl ?_
            refine z_go 90 rfl ?_
            refine r_lv11 (4 * f + j) (sN_eq I0 rfl) (i_nI (by omega)) (by omega) rfl ?_
            refine z_go 90 rfl ?_
            refine z_get zr_o rfl rfl rfl rfl ?_
            refine z_go 90 rfl ?_
            refine r_lv12 (4 * f + j) (sN_eq I0 rfl) (i_nI (by omega)) (by omega) rfl ?_
            refine z_go 90 rfl ?_
            refine z_cV zr_o (rc_opens G (sN S 11 (4 * f + j)) (sN S 12 (4 * f + j)) v1 (by omega)) KX11_opens IX11_opens VX11_opens rfl rfl rfl PX11_opens rfl rfl rfl rfl ?_
            refine z_go 90 rfl ?_
            exact z_zret rfl rfl rfl ⟨rfl, rfl⟩
        · refine z_go 90 rfl ?_
          refine r_st13 (4 * f + j) (i_nI (by omega)) (by omega) rfl ?_
          refine z_go 90 rfl ?_
          refine z_br rfl rfl (fun k => ?_) (fun k => ?_) <;> (try dsimp only at k)
          · refine z_go 90 rfl ?_
            rw [if_pos e]
            refine z_get zr_o rfl rfl rfl rfl ?_
            refine z_go 90 rfl ?_
            refine r_lv11 (4 * f + j) (sN_eq I0 rfl) (i_nI (by omega)) (by omega) rfl ?_
            refine z_go 90 rfl ?_
            refine z_get zr_o rfl rfl rfl rfl ?_
            refine z_go 90 rfl ?_
            refine r_lv11 (4 * f + j) (sN_eq I0 rfl) (i_nI (by omega)) (by omega) rfl ?_
            refine z_go 90 rfl ?_
            refine z_get zr_o rfl rfl rfl rfl ?_
            refine z_go 90 rfl ?_
            refine r_lv12 (4 * f + j) (sN_eq I0 rfl) (i_nI (by omega)) (by omega) rfl ?_
            refine z_go 90 rfl ?_
            rw [n_add]
            refine z_cV zr_o (rc_paint G (sN S 11 (4 * f + j)) (sN S 11 (4 * f + j) + sN S 12 (4 * f + j)) 248 (by omega) (by omega)) KX11_paint IX11_paint VX11_paint rfl rfl rfl PX11_paint rfl rfl rfl rfl ?_
            refine z_go 90 rfl ?_
            exact z_zret rfl rfl rfl ⟨rfl, rfl⟩
          · exact absurd e k
      · have d' : ¬ S 13 (4 * f + j) = w := d
        rw [if_neg d']
        refine z_go 90 rfl ?_
        exact z_zret rfl rfl rfl ⟨rfl, rfl⟩
    · exact absurd rfl c
/-- variable -/
noncomputable def sVar (S : zS) (p q : Int32) : Int32 × zS := zif (sNoV S p q) (0, sThrow S 1) (S 11 (4 * p.toInt.toNat + q.toInt.toNat), sThrow S 0)
theorem rc_var (G : zG X) (I : sInv S cc) (p q : Int32) : ZM X MX11_variable 1 127 [.ref m, .int p, .int q] (zr X h m S) (zX (zr X h m (sVar S p q).2) (some (.int (sVar S p q).1))) := by
  have I0 := I.1
  refine zm_of_z G KX11_variable rfl rfl ?_
  refine z_go 90 rfl ?_
  refine z_cV zr_o (rc_noVar G I p q) KX11_noVariable IX11_noVariable VX11_noVariable rfl rfl rfl PX11_noVariable rfl rfl rfl rfl ?_
  refine z_go 90 rfl ?_
  refine z_ite (p := sNoV S p q) (fun nv => ?_) (fun nv => ?_)
  · rw [zif_pos nv]
    refine z_br rfl rfl (fun c => ?_) (fun c => ?_) <;> (try dsimp only at c)
    · exact absurd c (by decide)
    · refine z_go 90 rfl ?_
      refine rr_yes G (by decide) rfl rfl rfl rfl rfl ?_
      refine z_go 90 rfl ?_
      refine z_iret rfl rfl ?_
      unfold sVar
      rw [zif_pos nv]
      exact ⟨rfl, rfl⟩
  · rw [zif_neg nv]
    refine z_br rfl rfl (fun c => ?_) (fun c => ?_) <;> (try dsimp only at c)
    · refine z_go 90 rfl ?_
      refine rr_no G rfl rfl rfl rfl rfl ?_
      obtain ⟨f, j, rfl, rfl, hf, hj, hv, -⟩ := sVar_b I nv
      have f1 := I.2.2.2.1.1
      have e10 := sN_lt I0 (k := 10) (i := f) rfl
      have hS : sVar S (nI f) (nI j) = (S 11 (4 * f + j), sThrow S 0) := by
        unfold sVar
        rw [zif_neg nv, i_nI (show f < 2147483648 by omega), i_nI (show j < 2147483648 by omega)]
        rfl
      rw [hS]
      refine z_go 90 rfl ?_
      refine z_get zr_o rfl rfl rfl rfl ?_
      refine z_go 90 rfl ?_
      rw [show (4 : Int32) * nI f + nI j = nI (4 * f + j) from by rw [show (4 : Int32) = nI 4 from rfl, n_mul, n_add]]
      refine r_ld11 (4 * f + j) (i_nI (by omega)) (by omega) rfl ?_
      refine z_go 90 rfl ?_
      exact z_iret rfl rfl ⟨rfl, rfl⟩
    · exact absurd rfl c
end ZRE
end
section
def sSp (n : Nat) : Nat := if n = 0 then 0 else sPad n
def sSz (a b c d : Nat) : Nat → Nat := fun k => match k with
  | 0 => a
  | 1 => b
  | 2 => c
  | _ => d
def sEnt1 (S : zS) (fr e n many next : Nat) : zS := sOpen (sPaint (zV (zV (zV S 11 (upd (S 11) (4 * fr + many) (nI next))) 12 (upd (S 12) (4 * fr + many) (nI n))) 13 (upd (S 13) (4 * fr + many) 0)) next (next + sPad n) (if next + sPad n = e then 243 else 242)) next n
def sEntL (s : Nat → Nat) (fr e : Nat) (t : zS × Nat × Nat) : Nat → zS × Nat × Nat
  | 0 => t
  | k + 1 => if s k = 0 then sEntL s fr e t k else (sEnt1 (sEntL s fr e t k).1 fr e (s k) (sEntL s fr e t k).2.1 (sEntL s fr e t k).2.2, (sEntL s fr e t k).2.1 + 1, (sEntL s fr e t k).2.2 + sPad (s k))
def sFe (S : zS) : Nat := if sN S 14 0 = 0 then sN S 1 0 / 4 else sN S 8 (sN S 14 0 - 1)
def sEnterB (S : zS) (s : Nat → Nat) : Int32 × zS :=
  if sFe S < 32 + zSum (fun i => sSp (s i)) 4 + sN S 1 0 / 8 then (-1, S) else
    (nI (sFe S - (32 + zSum (fun i => sSp (s i)) 4)),
      zV (zV (sEntL s (sN S 14 0) (sFe S) (sPaint (zV (zV S 8 (upd (S 8) (sN S 14 0) (nI (sFe S - (32 + zSum (fun i => sSp (s i)) 4))))) 9 (upd (S 9) (sN S 14 0) (nI (sFe S)))) (sFe S - (32 + zSum (fun i => sSp (s i)) 4)) (sFe S - (32 + zSum (fun i => sSp (s i)) 4) + 32) 241, 0, sFe S - (32 + zSum (fun i => sSp (s i)) 4) + 32) 4).1 14 (fun _ => nI (sN S 14 0 + 1))) 10
        (upd ((sEntL s (sN S 14 0) (sFe S) (sPaint (zV (zV S 8 (upd (S 8) (sN S 14 0) (nI (sFe S - (32 + zSum (fun i => sSp (s i)) 4))))) 9 (upd (S 9) (sN S 14 0) (nI (sFe S)))) (sFe S - (32 + zSum (fun i => sSp (s i)) 4)) (sFe S - (32 + zSum (fun i => sSp (s i)) 4) + 32) 241, 0, sFe S - (32 + zSum (fun i => sSp (s i)) 4) + 32) 4).1 10) (sN S 14 0) (nI (sEntL s (sN S 14 0) (sFe S) (sPaint (zV (zV S 8 (upd (S 8) (sN S 14 0) (nI (sFe S - (32 + zSum (fun i => sSp (s i)) 4))))) 9 (upd (S 9) (sN S 14 0) (nI (sFe S)))) (sFe S - (32 + zSum (fun i => sSp (s i)) 4)) (sFe S - (32 + zSum (fun i => sSp (s i)) 4) + 32) 241, 0, sFe S - (32 + zSum (fun i => sSp (s i)) 4) + 32) 4).2.1)))
theorem sEntL_f (s : Nat → Nat) (fr e : Nat) (t : zS × Nat × Nat) (k : Nat) : (sEntL s fr e t k).1 14 = t.1 14 ∧ (sEntL s fr e t k).1 1 = t.1 1 ∧ (sEntL s fr e t k).2.1 ≤ t.2.1 + k ∧ (sEntL s fr e t k).2.2 = t.2.2 + zSum (fun i => sSp (s i)) k := by
  induction k with
  | zero => exact ⟨rfl, rfl, Nat.le_refl _, rfl⟩
  | succ k ih =>
    obtain ⟨i1, i2, i3, i4⟩ := ih
    show (sEntL s fr e t (k + 1)).1 14 = _ ∧ _
    unfold sEntL
    have hz : zSum (fun i => sSp (s i)) (k + 1) = zSum (fun i => sSp (s i)) k + sSp (s k) := rfl
    rw [hz]
    by_cases c : s k = 0
    · rw [if_pos c]
      have : sSp (s k) = 0 := by unfold sSp; rw [if_pos c]
      exact ⟨i1, i2, by omega, by omega⟩
    · rw [if_neg c]
      have : sSp (s k) = sPad (s k) := by unfold sSp; rw [if_neg c]
      exact ⟨i1, i2, by show _ + 1 ≤ _; omega, by show _ + sPad (s k) = _; omega⟩
theorem sSp_m (s : Nat → Nat) (k : Nat) : zSum (fun i => sSp (s i)) k % 32 = 0 := by
  induction k with
  | zero => rfl
  | succ k ih =>
    show (zSum (fun i => sSp (s i)) k + sSp (s k)) % 32 = 0
    have : sSp (s k) % 32 = 0 := by
      unfold sSp
      split
      · rfl
      · unfold sPad; omega
    omega
section ZEN
variable {X : zCx} {h : zHp} {m : Nat} {S : zS} {cc : Nat}
/-- the second half of enter: the variables are laid -/
theorem rc_enter2 (G : zG X) (a b c d fr e at' : Nat) (S0 : zS) (Q : zRs → zHp → Prop) (hs : ∀ k, sSz a b c d k ≤ 128) (he : at' + 32 + zSum (fun i => sSp (sSz a b c d i)) 4 = e) (he2 : e ≤ 2048) (hfr : fr ≤ 10) (h8 : at' % 8 = 0) (e14 : S0 14 0 = nI fr)
    (hQ : Q (.inl (some (.int (nI at')))) (zr X h m (zV (zV (sEntL (sSz a b c d) fr e (S0, 0, at' + 32) 4).1 14 (fun _ => nI (fr + 1))) 10 (upd ((sEntL (sSz a b c d) fr e (S0, 0, at' + 32) 4).1 10) fr (nI (sEntL (sSz a b c d) fr e (S0, 0, at' + 32) 4).2.1))))) :
    ∀ o10 o11, Z X MX11_enter (1, 127, h.2.1, h.2.2) (zr X h m S0) 223 [some (.ref m), some (.int (nI a)), some (.int (nI b)), some (.int (nI c)), some (.int (nI d)), some (.int (nI e)), some (.int (nI at')), some (.int (nI 0)), some (.int (nI (at' + 32))), some (.int (nI 0)), o10, o11] [.int 4, .int (nI 0)] Q := by
  have hmono : ∀ k, k < 4 → zSum (fun i => sSp (sSz a b c d i)) k + sSp (sSz a b c d k) ≤ zSum (fun i => sSp (sSz a b c d i)) 4 := by
    intro k hk
    have : k = 0 ∨ k = 1 ∨ k = 2 ∨ k = 3 := by omega
    rcases this with rfl | rfl | rfl | rfl <;> simp only [zSum] <;> omega
  refine zdown (P := fun k => ∀ o10 o11, Z X MX11_enter (1, 127, h.2.1, h.2.2) (zr X h m (sEntL (sSz a b c d) fr e (S0, 0, at' + 32) k).1) 223 [some (.ref m), some (.int (nI a)), some (.int (nI b)), some (.int (nI c)), some (.int (nI d)), some (.int (nI e)), some (.int (nI at')), some (.int (nI (sEntL (sSz a b c d) fr e (S0, 0, at' + 32) k).2.1)), some (.int (nI (sEntL (sSz a b c d) fr e (S0, 0, at' + 32) k).2.2)), some (.int (nI k)), o10, o11] [.int 4, .int (nI k)] Q) 4 (fun k hk ih o10 o11 => ?_) 0 (by omega)
  obtain ⟨t1, t2, t3, t4⟩ := sEntL_f (sSz a b c d) fr e (S0, 0, at' + 32) k
  have e14' : (sEntL (sSz a b c d) fr e (S0, 0, at' + 32) k).1 14 0 = nI fr := by rw [t1]; exact e14
  dsimp only at t3 t4
  have hmd := sSp_m (sSz a b c d) k
  have hstep : ∀ (hk4 : k < 4), Z X MX11_enter (1, 127, h.2.1, h.2.2) (zr X h m (sEntL (sSz a b c d) fr e (S0, 0, at' + 32) k).1) 261 [some (.ref m), some (.int (nI a)), some (.int (nI b)), some (.int (nI c)), some (.int (nI d)), some (.int (nI e)), some (.int (nI at')), some (.int (nI (sEntL (sSz a b c d) fr e (S0, 0, at' + 32) k).2.1)), some (.int (nI (sEntL (sSz a b c d) fr e (S0, 0, at' + 32) k).2.2)), some (.int (nI k)), some (.int (nI (sSz a b c d k))), o11] [.int (nI (sSz a b c d k))] Q := by
    intro hk4
    have ih := ih hk4
    have hm := hmono k hk4
    have hn := hs k
    generalize hnn : sSz a b c d k = n at hm hn ⊢
    have hE : sEntL (sSz a b c d) fr e (S0, 0, at' + 32) (k + 1) = if n = 0 then sEntL (sSz a b c d) fr e (S0, 0, at' + 32) k else (sEnt1 (sEntL (sSz a b c d) fr e (S0, 0, at' + 32) k).1 fr e n (sEntL (sSz a b c d) fr e (S0, 0, at' + 32) k).2.1 (sEntL (sSz a b c d) fr e (S0, 0, at' + 32) k).2.2, (sEntL (sSz a b c d) fr e (S0, 0, at' + 32) k).2.1 + 1, (sEntL (sSz a b c d) fr e (S0, 0, at' + 32) k).2.2 + sPad n) := by rw [← hnn]; rfl
    rw [hE] at ih
    clear hE
    generalize sEntL (sSz a b c d) fr e (S0, 0, at' + 32) k = t at ih e14' t3 t4 ⊢
    obtain ⟨T, many, next⟩ := t
    dsimp only at ih e14' t3 t4 ⊢
    refine z_br rfl rfl (fun g => ?_) (fun g => ?_) <;> (try dsimp only at g)
    · rw [show (0 : Int32) = nI 0 from rfl, n_eq (by omega) (by omega)] at g
      rw [if_neg g] at ih
      have hp : sSp n = sPad n := by unfold sSp; rw [if_neg g]
      rw [hp] at hm
      have hpm : sPad n ≤ 160 ∧ n + 32 ≤ sPad n := by unfold sPad; omega
      refine z_go 90 rfl ?_
      refine r_v14 e14' rfl rfl rfl ?_
      refine z_go 90 rfl ?_
      rw [show (4 : Int32) * nI fr + nI many = nI (4 * fr + many) from by rw [show (4 : Int32) = nI 4 from rfl, n_mul, n_add]]
      refine z_get zr_o rfl rfl rfl rfl ?_
      refine z_go 90 rfl ?_
      refine r_st11 (4 * fr + many) (i_nI (by omega)) (by omega) rfl ?_
      refine z_go 90 rfl ?_
      refine z_get zr_o rfl rfl rfl rfl ?_
      refine z_go 90 rfl ?_
      refine r_st12 (4 * fr + many) (i_nI (by omega)) (by omega) rfl ?_
      refine z_go 90 rfl ?_
      refine z_get zr_o rfl rfl rfl rfl ?_
      refine z_go 90 rfl ?_
      refine r_st13 (4 * fr + many) (i_nI (by omega)) (by omega) rfl ?_
      refine z_go 90 rfl ?_
      refine z_cS (rc_padded G n (by omega)) KX11_padded SX11_padded rfl rfl PX11_padded rfl rfl rfl rfl ?_
      refine z_go 90 rfl ?_
      rw [show (n + 31) / 32 * 32 + 32 = sPad n from rfl, n_add]
      refine z_cS (rc_padded G n (by omega)) KX11_padded SX11_padded rfl rfl PX11_padded rfl rfl rfl rfl ?_
      refine z_go 90 rfl ?_
      rw [show (n + 31) / 32 * 32 + 32 = sPad n from rfl, n_add]
      have fin : ∀ v : Int32, v = (if next + sPad n = e then 243 else 242) → Z X MX11_enter (1, 127, h.2.1, h.2.2) (zr X h m (zV (zV (zV T 11 (upd (T 11) (4 * fr + many) (nI next))) 12 (upd (T 12) (4 * fr + many) (nI n))) 13 (upd (T 13) (4 * fr + many) 0))) 340 [some (.ref m), some (.int (nI a)), some (.int (nI b)), some (.int (nI c)), some (.int (nI d)), some (.int (nI e)), some (.int (nI at')), some (.int (nI many + 1)), some (.int (nI next)), some (.int (nI k)), some (.int (nI n)), some (.int (nI (4 * fr + many)))] [.int v, .int (nI (next + sPad n)), .int (nI next), .ref m] Q := by
        intro v hv
        refine z_cV zr_o (rc_paint G next (next + sPad n) v (by omega) (by omega)) KX11_paint IX11_paint VX11_paint rfl rfl rfl PX11_paint rfl rfl rfl rfl ?_
        refine z_go 90 rfl ?_
        refine z_cV zr_o (rc_opens G next n (by omega) (by omega)) KX11_opens IX11_opens VX11_opens rfl rfl rfl PX11_opens rfl rfl rfl rfl ?_
        refine z_go 90 rfl ?_
        refine z_cS (rc_padded G n (by omega)) KX11_padded SX11_padded rfl rfl PX11_padded rfl rfl rfl rfl ?_
        refine z_go 90 rfl ?_
        rw [show (n + 31) / 32 * 32 + 32 = sPad n from rfl, n_add]
        rw [show nI k + (1 : Int32) = nI (k + 1) from n_succ k, show nI many + (1 : Int32) = nI (many + 1) from n_succ many]
        have := ih (some (.int (nI n))) (some (.int (nI (4 * fr + many))))
        unfold sEnt1 at this
        rw [hv]
        exact this
      refine z_br rfl rfl (fun q => ?_) (fun q => ?_) <;> (try dsimp only at q)
      · refine z_go 90 rfl ?_
        exact fin _ (by rw [n_eq (by omega) (by omega)] at q; rw [if_neg q])
      · refine z_go 90 rfl ?_
        exact fin _ (by rw [n_eq (by omega) (by omega)] at q; rw [if_pos q])
    · rw [show (0 : Int32) = nI 0 from rfl, n_eq (by omega) (by omega)] at g
      rw [if_pos g] at ih
      refine z_go 90 rfl ?_
      rw [show nI k + (1 : Int32) = nI (k + 1) from n_succ k]
      exact ih _ _
  refine z_br rfl rfl (fun g => ?_) (fun g => ?_) <;> (try dsimp only at g)
  · rw [show (4 : Int32) = nI 4 from rfl, n_le (by omega) (by omega)] at g
    have : k = 4 := by omega
    subst this
    refine z_go 90 rfl ?_
    refine z_get zr_o rfl rfl rfl rfl ?_
    refine z_go 90 rfl ?_
    refine r_v14 e14' rfl rfl rfl ?_
    refine z_go 90 rfl ?_
    refine r_p14 rfl rfl rfl ?_
    refine z_go 90 rfl ?_
    refine r_st10 fr (i_nI (by omega)) (by omega) rfl ?_
    refine z_go 90 rfl ?_
    rw [show nI fr + (1 : Int32) = nI (fr + 1) from n_succ fr]
    exact z_iret rfl rfl hQ
  · rw [show (4 : Int32) = nI 4 from rfl, n_le (by omega) (by omega)] at g
    have hk4 : k < 4 := by omega
    have h9 := hstep hk4
    have : k = 0 ∨ k = 1 ∨ k = 2 ∨ k = 3 := by omega
    rcases this with rfl | rfl | rfl | rfl
    · refine z_go 90 rfl ?_
      refine z_br rfl rfl (fun c => absurd c (by decide)) (fun _ => ?_)
      refine z_go 90 rfl ?_
      exact h9
    · refine z_go 90 rfl ?_
      refine z_br rfl rfl (fun _ => ?_) (fun c => absurd c (by decide))
      refine z_go 90 rfl ?_
      refine z_br rfl rfl (fun c => absurd c (by decide)) (fun _ => ?_)
      refine z_go 90 rfl ?_
      exact h9
    · refine z_go 90 rfl ?_
      refine z_br rfl rfl (fun _ => ?_) (fun c => absurd c (by decide))
      refine z_go 90 rfl ?_
      refine z_br rfl rfl (fun _ => ?_) (fun c => absurd c (by decide))
      refine z_go 90 rfl ?_
      refine z_br rfl rfl (fun c => absurd c (by decide)) (fun _ => ?_)
      refine z_go 90 rfl ?_
      exact h9
    · refine z_go 90 rfl ?_
      refine z_br rfl rfl (fun _ => ?_) (fun c => absurd c (by decide))
      refine z_go 90 rfl ?_
      refine z_br rfl rfl (fun _ => ?_) (fun c => absurd c (by decide))
      refine z_go 90 rfl ?_
      refine z_br rfl rfl (fun _ => ?_) (fun c => absurd c (by decide))
      refine z_go 90 rfl ?_
      exact h9
noncomputable def sBadE (p q r u : Int32) : Prop := ¬ (0 ≤ p.toInt ∧ p.toInt ≤ 128) ∨ ¬ (0 ≤ q.toInt ∧ q.toInt ≤ 128) ∨ ¬ (0 ≤ r.toInt ∧ r.toInt ≤ 128) ∨ ¬ (0 ≤ u.toInt ∧ u.toInt ≤ 128) ∨ p ||| q ||| r ||| u = 0
noncomputable def sEnter (S : zS) (p q r u : Int32) : Int32 × zS := zif (sBadE p q r u) (0, sThrow S 1) (sEnterB (sThrow S 0) (sSz p.toInt.toNat q.toInt.toNat r.toInt.toNat u.toInt.toNat))
theorem rc_enter1 (G : zG X) (a b c d : Nat) (I : sI0 S) (In : sIn S) (If : sIf S) (hs : ∀ k, sSz a b c d k ≤ 128) : Z X MX11_enter (1, 127, h.2.1, h.2.2) (zr X h m S) 55 [some (.ref m), some (.int (nI a)), some (.int (nI b)), some (.int (nI c)), some (.int (nI d)), none, none, none, none, none, none, none] [.ref m] (zX (zr X h m (sEnterB S (sSz a b c d)).2) (some (.int (sEnterB S (sSz a b c d)).1))) := by
  have e14 : S 14 0 = nI (sN S 14 0) := sN_eq I rfl
  have e1 : S 1 0 = nI (sN S 1 0) := sN_eq I rfl
  have f1 := If.1
  obtain ⟨N1, N2, N3, N4⟩ := In
  have hfe : sFe S ≤ 2048 ∧ sFe S % 8 = 0 := by
    unfold sFe
    split
    · omega
    · obtain ⟨g1, g2, g3, g4, g5, -⟩ := If.2 (sN S 14 0 - 1) (by omega)
      omega
  have hsum : ∀ k, k ≤ 4 → zSum (fun i => sSp (sSz a b c d i)) k ≤ 640 := by
    intro k hk
    have := zSum_le (g := fun i => sSp (sSz a b c d i)) (b := 160) (fun i => by have := hs i; show sSp _ ≤ 160; unfold sSp sPad; split <;> omega) k
    omega
  have H : Z X MX11_enter (1, 127, h.2.1, h.2.2) (zr X h m S) 96 [some (.ref m), some (.int (nI a)), some (.int (nI b)), some (.int (nI c)), some (.int (nI d)), some (.int (nI (sFe S))), some (.int (nI (sFe S) - 32)), some (.int (nI 0)), none, none, none, none] [.int 4, .int (nI 0)] (zX (zr X h m (sEnterB S (sSz a b c d)).2) (some (.int (sEnterB S (sSz a b c d)).1))) := by
    refine zdown (P := fun k => ∀ (x : Int32) o8, x.toInt = (sFe S : Int) - 32 - (zSum (fun i => sSp (sSz a b c d i)) k : Nat) → Z X MX11_enter (1, 127, h.2.1, h.2.2) (zr X h m S) 96 [some (.ref m), some (.int (nI a)), some (.int (nI b)), some (.int (nI c)), some (.int (nI d)), some (.int (nI (sFe S))), some (.int x), some (.int (nI k)), o8, none, none, none] [.int 4, .int (nI k)] (zX (zr X h m (sEnterB S (sSz a b c d)).2) (some (.int (sEnterB S (sSz a b c d)).1)))) 4 (fun k hk ih x o8 hx => ?_) 0 (by omega) _ none (by
        have q0 := i_nI (n := sFe S) (by omega)
        have q1 : (32 : Int32).toInt = 32 := rfl
        rw [show zSum (fun i => sSp (sSz a b c d i)) 0 = 0 from rfl]
        rw [i_sub] <;> omega)
    have hsk := hsum k hk
    have hstep : ∀ (hk4 : k < 4), Z X MX11_enter (1, 127, h.2.1, h.2.2) (zr X h m S) 136 [some (.ref m), some (.int (nI a)), some (.int (nI b)), some (.int (nI c)), some (.int (nI d)), some (.int (nI (sFe S))), some (.int x), some (.int (nI k)), some (.int (nI (sSz a b c d k))), none, none, none] [.int (nI (sSz a b c d k)), .int x] (zX (zr X h m (sEnterB S (sSz a b c d)).2) (some (.int (sEnterB S (sSz a b c d)).1))) := by
      intro hk4
      have ih := ih hk4
      have hn := hs k
      have hz : zSum (fun i => sSp (sSz a b c d i)) (k + 1) = zSum (fun i => sSp (sSz a b c d i)) k + sSp (sSz a b c d k) := rfl
      generalize sSz a b c d k = n at hn hz ⊢
      refine z_br rfl rfl (fun g => ?_) (fun g => ?_) <;> (try dsimp only at g)
      · rw [show (0 : Int32) = nI 0 from rfl, n_eq (by omega) (by omega)] at g
        have hp : sSp n = sPad n := by unfold sSp; rw [if_neg g]
        have hpm : sPad n ≤ 160 ∧ n + 32 ≤ sPad n := by unfold sPad; omega
        refine z_go 90 rfl ?_
        refine z_cS (rc_padded G n (by omega)) KX11_padded SX11_padded rfl rfl PX11_padded rfl rfl rfl rfl ?_
        refine z_go 90 rfl ?_
        rw [show (n + 31) / 32 * 32 + 32 = sPad n from rfl]
        rw [show nI k + (1 : Int32) = nI (k + 1) from n_succ k]
        refine ih _ _ ?_
        have q0 := i_nI (n := sPad n) (by omega)
        rw [i_sub] <;> omega
      · rw [show (0 : Int32) = nI 0 from rfl, n_eq (by omega) (by omega)] at g
        have hp : sSp n = 0 := by unfold sSp; rw [if_pos g]
        refine z_go 90 rfl ?_
        rw [show nI k + (1 : Int32) = nI (k + 1) from n_succ k]
        refine ih _ _ ?_
        dsimp only
        have q0 : (0 : Int32).toInt = 0 := rfl
        rw [i_sub] <;> omega
    refine z_br rfl rfl (fun g => ?_) (fun g => ?_) <;> (try dsimp only at g)
    · rw [show (4 : Int32) = nI 4 from rfl, n_le (by omega) (by omega)] at g
      have : k = 4 := by omega
      subst this
      refine z_go 90 rfl ?_
      refine r_v1 e1 rfl rfl rfl ?_
      refine z_go 90 rfl ?_
      refine z_div rfl (by decide) ?_
      refine z_go 90 rfl ?_
      rw [show nI (sN S 1 0) / (8 : Int32) = nI (sN S 1 0 / 8) from n_div (b := 8) (by omega) (by omega) (by omega)]
      have q8 := i_nI (n := sN S 1 0 / 8) (by omega)
      refine z_br rfl rfl (fun q => ?_) (fun q => ?_) <;> (try dsimp only at q)
      · rw [i_le] at q
        obtain ⟨y, rfl, hy⟩ := i_nat (x := x) (by omega)
        rw [i_nI hy] at hx q
        have hy2 : sFe S - (32 + zSum (fun i => sSp (sSz a b c d i)) 4) = y := by omega
        have hB : ¬ sFe S < 32 + zSum (fun i => sSp (sSz a b c d i)) 4 + sN S 1 0 / 8 := by omega
        unfold sEnterB
        rw [if_neg hB, hy2]
        have hmd := sSp_m (sSz a b c d) 4
        refine z_go 90 rfl ?_
        refine z_get zr_o rfl rfl rfl rfl ?_
        refine z_go 90 rfl ?_
        refine r_v14 e14 rfl rfl rfl ?_
        refine z_go 90 rfl ?_
        refine r_st8 (sN S 14 0) (i_nI (by omega)) (by omega) rfl ?_
        refine z_go 90 rfl ?_
        refine z_get zr_o rfl rfl rfl rfl ?_
        refine z_go 90 rfl ?_
        refine r_v14 e14 rfl rfl rfl ?_
        refine z_go 90 rfl ?_
        refine r_st9 (sN S 14 0) (i_nI (by omega)) (by omega) rfl ?_
        refine z_go 90 rfl ?_
        rw [show nI y + (32 : Int32) = nI (y + 32) from n_add y 32]
        refine z_cV zr_o (rc_paint G y (y + 32) 241 (by omega) (by omega)) KX11_paint IX11_paint VX11_paint rfl rfl rfl PX11_paint rfl rfl rfl rfl ?_
        refine z_go 90 rfl ?_
        rw [show nI y + (32 : Int32) = nI (y + 32) from n_add y 32]
        refine rc_enter2 G a b c d (sN S 14 0) (sFe S) y _ _ hs (by omega) (by omega) (by omega) (by omega) (by exact e14) ?_ none none
        exact ⟨rfl, rfl⟩
      · rw [i_le] at q
        have hB : sFe S < 32 + zSum (fun i => sSp (sSz a b c d i)) 4 + sN S 1 0 / 8 := by omega
        unfold sEnterB
        rw [if_pos hB]
        refine z_go 90 rfl ?_
        exact z_iret rfl rfl ⟨rfl, rfl⟩
    · rw [show (4 : Int32) = nI 4 from rfl, n_le (by omega) (by omega)] at g
      have hk4 : k < 4 := by omega
      have h9 := hstep hk4
      have : k = 0 ∨ k = 1 ∨ k = 2 ∨ k = 3 := by omega
      rcases this with rfl | rfl | rfl | rfl
      · refine z_go 90 rfl ?_
        refine z_br rfl rfl (fun c => absurd c (by decide)) (fun _ => ?_)
        refine z_go 90 rfl ?_
        exact h9
      · refine z_go 90 rfl ?_
        refine z_br rfl rfl (fun _ => ?_) (fun c => absurd c (by decide))
        refine z_go 90 rfl ?_
        refine z_br rfl rfl (fun c => absurd c (by decide)) (fun _ => ?_)
        refine z_go 90 rfl ?_
        exact h9
      · refine z_go 90 rfl ?_
        refine z_br rfl rfl (fun _ => ?_) (fun c => absurd c (by decide))
        refine z_go 90 rfl ?_
        refine z_br rfl rfl (fun _ => ?_) (fun c => absurd c (by decide))
        refine z_go 90 rfl ?_
        refine z_br rfl rfl (fun c => absurd c (by decide)) (fun _ => ?_)
        refine z_go 90 rfl ?_
        exact h9
      · refine z_go 90 rfl ?_
        refine z_br rfl rfl (fun _ => ?_) (fun c => absurd c (by decide))
        refine z_go 90 rfl ?_
        refine z_br rfl rfl (fun _ => ?_) (fun c => absurd c (by decide))
        refine z_go 90 rfl ?_
        refine z_br rfl rfl (fun _ => ?_) (fun c => absurd c (by decide))
        refine z_go 90 rfl ?_
        exact h9
  refine r_v14 e14 rfl rfl rfl ?_
  refine z_go 90 rfl ?_
  refine z_br rfl rfl (fun g => ?_) (fun g => ?_) <;> (try dsimp only at g)
  · rw [show (0 : Int32) = nI 0 from rfl, n_eq (by omega) (by omega)] at g
    refine z_go 90 rfl ?_
    refine z_get zr_o rfl rfl rfl rfl ?_
    refine z_go 90 rfl ?_
    refine r_v14 e14 rfl rfl rfl ?_
    refine z_go 90 rfl ?_
    rw [show nI (sN S 14 0) - (1 : Int32) = nI (sN S 14 0 - 1) from n_sub (b := 1) (by omega) (by omega)]
    refine r_lv8 (sN S 14 0 - 1) (sN_eq I rfl) (i_nI (by omega)) (by omega) rfl ?_
    refine z_go 90 rfl ?_
    have : sFe S = sN S 8 (sN S 14 0 - 1) := by unfold sFe; rw [if_neg g]
    rw [← this]
    exact H
  · rw [show (0 : Int32) = nI 0 from rfl, n_eq (by omega) (by omega)] at g
    refine z_go 90 rfl ?_
    refine r_v1 e1 rfl rfl rfl ?_
    refine z_go 90 rfl ?_
    refine z_div rfl (by decide) ?_
    refine z_go 90 rfl ?_
    rw [show nI (sN S 1 0) / (4 : Int32) = nI (sN S 1 0 / 4) from n_div (b := 4) (by omega) (by omega) (by omega)]
    have : sFe S = sN S 1 0 / 4 := by unfold sFe; rw [if_pos g]
    rw [← this]
    exact H
theorem rc_enter (G : zG X) (I : sInv S cc) (p q r u : Int32) : ZM X MX11_enter 1 127 [.ref m, .int p, .int q, .int r, .int u] (zr X h m S) (zX (zr X h m (sEnter S p q r u).2) (some (.int (sEnter S p q r u).1))) := by
  refine zm_of_z G KX11_enter rfl rfl ?_
  refine z_go 90 rfl ?_
  have bad : sBadE p q r u → Z X MX11_enter (1, 127, h.2.1, h.2.2) (zr X h m S) 46 [some (.ref m), some (.int p), some (.int q), some (.int r), some (.int u), none, none, none, none, none, none, none] [.int 1, .ref m] (zX (zr X h m (sEnter S p q r u).2) (some (.int (sEnter S p q r u).1))) := by
    intro hb
    refine rr_yes G (by decide) rfl rfl rfl rfl rfl ?_
    refine z_go 90 rfl ?_
    refine z_iret rfl rfl ?_
    unfold sEnter
    rw [zif_pos hb]
    exact ⟨rfl, rfl⟩
  refine z_cS (rc_isSize G p) KX11_isSize SX11_isSize rfl rfl PX11_isSize rfl rfl rfl rfl ?_
  refine z_go 90 rfl ?_
  refine z_br rfl rfl (fun c1 => ?_) (fun c1 => ?_) <;> (try dsimp only at c1)
  · refine z_go 90 rfl ?_
    exact bad (Or.inl (fun z => by rw [if_pos z] at c1; exact absurd c1 (by decide)))
  have d1 : 0 ≤ p.toInt ∧ p.toInt ≤ 128 := Classical.byContradiction fun z => by rw [if_neg z] at c1; exact c1 rfl
  refine z_go 90 rfl ?_
  refine z_cS (rc_isSize G q) KX11_isSize SX11_isSize rfl rfl PX11_isSize rfl rfl rfl rfl ?_
  refine z_go 90 rfl ?_
  refine z_br rfl rfl (fun c2 => ?_) (fun c2 => ?_) <;> (try dsimp only at c2)
  · refine z_go 90 rfl ?_
    exact bad (Or.inr (Or.inl (fun z => by rw [if_pos z] at c2; exact absurd c2 (by decide))))
  have d2 : 0 ≤ q.toInt ∧ q.toInt ≤ 128 := Classical.byContradiction fun z => by rw [if_neg z] at c2; exact c2 rfl
  refine z_go 90 rfl ?_
  refine z_cS (rc_isSize G r) KX11_isSize SX11_isSize rfl rfl PX11_isSize rfl rfl rfl rfl ?_
  refine z_go 90 rfl ?_
  refine z_br rfl rfl (fun c3 => ?_) (fun c3 => ?_) <;> (try dsimp only at c3)
  · refine z_go 90 rfl ?_
    exact bad (Or.inr (Or.inr (Or.inl (fun z => by rw [if_pos z] at c3; exact absurd c3 (by decide)))))
  have d3 : 0 ≤ r.toInt ∧ r.toInt ≤ 128 := Classical.byContradiction fun z => by rw [if_neg z] at c3; exact c3 rfl
  refine z_go 90 rfl ?_
  refine z_cS (rc_isSize G u) KX11_isSize SX11_isSize rfl rfl PX11_isSize rfl rfl rfl rfl ?_
  refine z_go 90 rfl ?_
  refine z_br rfl rfl (fun c4 => ?_) (fun c4 => ?_) <;> (try dsimp only at c4)
  · refine z_go 90 rfl ?_
    exact bad (Or.inr (Or.inr (Or.inr (Or.inl (fun z => by rw [if_pos z] at c4; exact absurd c4 (by decide))))))
  have d4 : 0 ≤ u.toInt ∧ u.toInt ≤ 128 := Classical.byContradiction fun z => by rw [if_neg z] at c4; exact c4 rfl
  refine z_go 90 rfl ?_
  refine z_br rfl rfl (fun c5 => ?_) (fun c5 => ?_) <;> (try dsimp only at c5)
  · refine z_go 90 rfl ?_
    refine rr_no G rfl rfl rfl rfl rfl ?_
    refine z_go 90 rfl ?_
    have hb : ¬ sBadE p q r u := by
      unfold sBadE
      rintro (z | z | z | z | z)
      · exact z d1
      · exact z d2
      · exact z d3
      · exact z d4
      · exact c5 z
    have hS : sEnter S p q r u = sEnterB (sThrow S 0) (sSz p.toInt.toNat q.toInt.toNat r.toInt.toNat u.toInt.toNat) := by
      unfold sEnter
      rw [zif_neg hb]
    rw [hS]
    obtain ⟨a, rfl, ha⟩ := i_nat d1.1
    obtain ⟨b, rfl, hb2⟩ := i_nat d2.1
    obtain ⟨c, rfl, hc⟩ := i_nat d3.1
    obtain ⟨d, rfl, hd⟩ := i_nat d4.1
    rw [i_nI ha] at d1 ⊢
    rw [i_nI hb2] at d2 ⊢
    rw [i_nI hc] at d3 ⊢
    rw [i_nI hd] at d4 ⊢
    rw [Int.toNat_natCast, Int.toNat_natCast, Int.toNat_natCast, Int.toNat_natCast]
    exact rc_enter1 (h := h) (m := m) (S := sThrow S 0) G a b c d (sI0_T I.1 0 (by decide)) I.2.1 I.2.2.2.1 (fun k => by
      unfold sSz
      split <;> omega)
  · refine z_go 90 rfl ?_
    exact bad (Or.inr (Or.inr (Or.inr (Or.inr c5))))
end ZEN
end
section
/-! the reference's blocks -/
theorem sN_V (S : zS) (k i : Nat) (g : Nat → Int32) : sN (zV S k g) k i = (g i).toInt.toNat := by unfold sN; rw [zV_at]
theorem sN_W (S : zS) {k j : Nat} (i : Nat) (g : Nat → Int32) (c : j ≠ k) : sN (zV S k g) j i = sN S j i := by unfold sN; rw [zV_ne _ _ c]
theorem sN_u (S : zS) (k j i : Nat) (x : Int32) : sN (zV S k (upd (S k) j x)) k i = if i = j then x.toInt.toNat else sN S k i := by
  rw [sN_V]
  unfold upd
  split <;> rfl
theorem sI0_paint {S : zS} (I : sI0 S) {a b : Nat} {v : Int32} (hv : 0 ≤ v.toInt ∧ v.toInt < 10000) : sI0 (sPaint S a b v) := by
  refine sI0_V I fun _ i => ?_
  split
  · exact hv
  · exact I 4 i rfl
theorem sI0_open {S : zS} (I : sI0 S) {a n : Nat} (hn : a + n ≤ 8192) : sI0 (sOpen S a n) := by
  refine sI0_V I fun _ i => ?_
  split
  · split
    · decide
    · rw [i_nI (by omega)]; omega
  · exact I 4 i rfl
theorem sIh_paint {S : zS} (I : sIh S) {a b : Nat} {v : Int32} (h1 : v.toInt.toNat ≤ 255) (h2 : v.toInt.toNat = 0 ∨ 8 ≤ v.toInt.toNat) : sIh (sPaint S a b v) := by
  intro g
  have e : sN (sPaint S a b v) 4 g = if a / 8 ≤ g ∧ g < (b + 7) / 8 then v.toInt.toNat else sN S 4 g := by
    unfold sPaint
    rw [sN_V]
    split <;> rfl
  have e1 : sN (sPaint S a b v) 1 0 = sN S 1 0 := rfl
  rw [e, e1]
  have := I g
  split <;> omega
theorem sIh_open {S : zS} (I : sIh S) {a n : Nat} (h1 : a % 8 = 0) (h2 : a + n + 8 ≤ sN S 1 0) (h3 : sN S 1 0 % 8 = 0) (h4 : sN S 1 0 ≤ 8192) : sIh (sOpen S a n) := by
  intro g
  have e : sN (sOpen S a n) 4 g = if a / 8 ≤ g ∧ 8 * g < a + n then (if 8 * g + 8 ≤ a + n then 0 else a + n - 8 * g) else sN S 4 g := by
    unfold sOpen
    rw [sN_V]
    split
    · split
      · rfl
      · rw [i_nI (by omega)]; rfl
    · rfl
  have e1 : sN (sOpen S a n) 1 0 = sN S 1 0 := rfl
  rw [e, e1]
  have := I g
  split
  · split <;> omega
  · omega
def sFree (S : zS) (a n : Nat) : Prop := ∀ k, k < sN S 23 0 → sN S 18 k ≠ 2 → ¬ (a < sN S 19 k + sN S 20 k ∧ sN S 19 k < a + n)
def sOkP (S : zS) (n i : Nat) : Prop := sN S 1 0 / 4 + 16 * i + n ≤ sN S 1 0 ∧ sFree S (sN S 1 0 / 4 + 16 * i) n
noncomputable def sPlace (S : zS) (n : Nat) : Option Nat := (zFst (sOkP S n) 600).map (fun i => sN S 1 0 / 4 + 16 * i)
def sOld (S : zS) : zS := sPaint (zV (zV (zV S 25 (fun _ => nI (sN S 25 0 - 1))) 24 (fun i => if i < sN S 25 0 - 1 then S 24 (i + 1) else S 24 i)) 18 (upd (S 18) (sN S 24 0) 2)) (sN S 19 (sN S 24 0)) (sN S 19 (sN S 24 0) + sN S 20 (sN S 24 0)) 250
theorem sOld_18 (S : zS) (b : Nat) : sN (sOld S) 18 b = if b = sN S 24 0 then 2 else sN S 18 b := by
  show ((upd (S 18) (sN S 24 0) 2) b).toInt.toNat = _
  unfold upd
  split <;> rfl
theorem sOld_24 (S : zS) (i : Nat) : sN (sOld S) 24 i = if i < sN S 25 0 - 1 then sN S 24 (i + 1) else sN S 24 i := by
  show (if i < sN S 25 0 - 1 then S 24 (i + 1) else S 24 i).toInt.toNat = _
  split <;> rfl
theorem sOld_25 {S : zS} (I : sI0 S) : sN (sOld S) 25 0 = sN S 25 0 - 1 := by
  have := sN_lt I (k := 25) (i := 0) rfl
  show (nI (sN S 25 0 - 1)).toInt.toNat = _
  rw [i_nI (by omega)]
  rfl
theorem sOld_inv {S : zS} {c : Nat} (I : sInv S c) (hh : 0 < sN S 25 0) : sInv (sOld S) c := by
  obtain ⟨I0, In, Ig, If, Ib, Iq, Ih, Im, Ic⟩ := I
  have e25 := sOld_25 I0
  refine ⟨?_, In, Ig, If, ?_, ?_, ?_, Im, ?_⟩
  · refine sI0_paint (sI0_V (sI0_V (sI0_V I0 fun _ _ => ?_) fun _ i => ?_) fun _ i => ?_) (by decide)
    · have := sN_lt I0 (k := 25) (i := 0) rfl
      rw [i_nI (by omega)]; omega
    · split
      · exact I0 24 _ rfl
      · exact I0 24 _ rfl
    · unfold upd
      split
      · decide
      · exact I0 18 _ rfl
  · refine ⟨fun b hb => ?_, fun b d hb hd hne h1 h2 => ?_⟩
    · obtain ⟨g1, g2, g3, g4, g5, g6, g7, g8⟩ := Ib.1 b hb
      refine ⟨g1, g2, g3, g4, g5, g6, g7, ?_⟩
      rw [sOld_18]
      split <;> omega
    · rw [sOld_18] at h1 h2
      refine Ib.2 b d hb hd hne ?_ ?_
      · intro z; rw [z] at h1; split at h1 <;> omega
      · intro z; rw [z] at h2; split at h2 <;> omega
  · refine ⟨fun i hi => ?_, fun i j hi hj he => ?_⟩
    · rw [e25] at hi
      rw [sOld_24, if_pos hi]
      obtain ⟨g1, g2⟩ := Iq.1 (i + 1) (by omega)
      refine ⟨g1, ?_⟩
      rw [sOld_18, if_neg, g2]
      intro z
      have := Iq.2 (i + 1) 0 (by omega) hh z
      omega
    · rw [e25] at hi hj
      rw [sOld_24, sOld_24, if_pos hi, if_pos hj] at he
      have := Iq.2 (i + 1) (j + 1) (by omega) (by omega) he
      omega
  · exact sIh_paint (S := zV (zV (zV S 25 _) 24 _) 18 _) Ih (by decide) (by decide)
  · obtain ⟨c1, c2, c3, c4⟩ := Ic
    exact ⟨c1, c2, by rw [e25]; omega, c4⟩
section ZBL
variable {X : zCx} {h : zHp} {m : Nat} {S : zS} {cc : Nat}
theorem rc_isFree (G : zG X) (I : sInv S cc) (a n : Nat) (ha : a ≤ 20000) (hn : n ≤ 20000) : ZM X MX11_isFree 0 100 [.ref m, .int (nI a), .int (nI n)] (zr X h m S) (zX (zr X h m S) (some (.int (zif (sFree S a n) 1 0)))) := by
  obtain ⟨I0, In, Ig, If, Ib, Iq, Ih, Im, Ic⟩ := I
  have e23 : S 23 0 = nI (sN S 23 0) := sN_eq I0 rfl
  obtain ⟨c1, c2, c3, c4⟩ := Ic
  refine zm_of_z G KX11_isFree rfl rfl ?_
  refine z_go 90 rfl ?_
  refine r_v23 e23 rfl rfl rfl ?_
  refine z_go 90 rfl ?_
  refine zdown (P := fun k => (∀ j, j < k → sN S 18 j ≠ 2 → ¬ (a < sN S 19 j + sN S 20 j ∧ sN S 19 j < a + n)) → Z X MX11_isFree _ (zr X h m S) _ [some (.ref m), some (.int (nI a)), some (.int (nI n)), some (Value.int (nI k))] [.int (nI (sN S 23 0)), .int (nI k)] _) (sN S 23 0) (fun k hk ih hp => ?_) 0 (Nat.zero_le _) (fun j hj => by omega)
  refine z_br rfl rfl (fun c => ?_) (fun c => ?_) <;> (try dsimp only at c)
  · rw [n_le (by omega) (by omega)] at c
    refine z_go 90 rfl ?_
    exact z_zret rfl rfl rfl ⟨rfl, by rw [zif_pos (p := sFree S a n) (fun j hj => hp j (by omega))]⟩
  · rw [n_le (by omega) (by omega)] at c
    have l18 := sN_lt I0 (k := 18) (i := k) rfl
    have l19 := sN_lt I0 (k := 19) (i := k) rfl
    have l20 := sN_lt I0 (k := 20) (i := k) rfl
    have go : ((sN S 18 k ≠ 2) → ¬ (a < sN S 19 k + sN S 20 k ∧ sN S 19 k < a + n)) → Z X MX11_isFree (0, 100, (zr X h m S).2.1, (zr X h m S).2.2) (zr X h m S) 51 [some (.ref m), some (.int (nI a)), some (.int (nI n)), some (Value.int (nI k))] [] (zX (zr X h m S) (some (.int (zif (sFree S a n) 1 0)))) := by
      intro hgo
      refine z_go 90 rfl ?_
      rw [show nI k + (1 : Int32) = nI (k + 1) from n_succ k]
      refine r_v23 e23 rfl rfl rfl ?_
      refine z_go 90 rfl ?_
      refine ih (by omega) (fun j hj => ?_)
      by_cases e : j = k
      · subst e; exact hgo
      · exact hp j (by omega)
    refine z_go 90 rfl ?_
    refine z_get zr_o rfl rfl rfl rfl ?_
    refine z_go 90 rfl ?_
    refine r_lv18 k (sN_eq I0 rfl) (i_nI (by omega)) (by omega) rfl ?_
    refine z_go 90 rfl ?_
    refine z_br rfl rfl (fun d => ?_) (fun d => ?_) <;> (try dsimp only at d)
    · rw [show (2 : Int32) = nI 2 from rfl, n_eq (by omega) (by omega)] at d
      exact go (fun z => absurd d z)
    · rw [show (2 : Int32) = nI 2 from rfl, n_eq (by omega) (by omega)] at d
      refine z_go 90 rfl ?_
      refine z_get zr_o rfl rfl rfl rfl ?_
      refine z_go 90 rfl ?_
      refine r_lv19 k (sN_eq I0 rfl) (i_nI (by omega)) (by omega) rfl ?_
      refine z_go 90 rfl ?_
      refine z_get zr_o rfl rfl rfl rfl ?_
      refine z_go 90 rfl ?_
      refine r_lv20 k (sN_eq I0 rfl) (i_nI (by omega)) (by omega) rfl ?_
      refine z_go 90 rfl ?_
      rw [n_add]
      refine z_br rfl rfl (fun e => ?_) (fun e => ?_) <;> (try dsimp only at e)
      · rw [n_le (by omega) (by omega)] at e
        exact go (fun _ => by omega)
      · rw [n_le (by omega) (by omega)] at e
        refine z_go 90 rfl ?_
        refine z_get zr_o rfl rfl rfl rfl ?_
        refine z_go 90 rfl ?_
        refine r_lv19 k (sN_eq I0 rfl) (i_nI (by omega)) (by omega) rfl ?_
        refine z_go 90 rfl ?_
        rw [n_add]
        refine z_br rfl rfl (fun q => ?_) (fun q => ?_) <;> (try dsimp only at q)
        · rw [n_le (by omega) (by omega)] at q
          exact go (fun _ => by omega)
        · rw [n_le (by omega) (by omega)] at q
          refine z_go 90 rfl ?_
          exact z_zret rfl rfl rfl ⟨rfl, by rw [zif_neg (p := sFree S a n) (fun z => z k (by omega) d (by omega))]⟩
theorem rc_placeFor (G : zG X) (I : sInv S cc) (n : Nat) (hn : n ≤ 10000) : ZM X MX11_placeFor 1 127 [.ref m, .int (nI n)] (zr X h m S) (zX (zr X h m S) (some (.int (zoI (sPlace S n))))) := by
  obtain ⟨I0, In, -⟩ := id I
  have e1 : S 1 0 = nI (sN S 1 0) := sN_eq I0 rfl
  obtain ⟨N1, N2, N3, N4⟩ := In
  refine zm_of_z G KX11_placeFor rfl rfl ?_
  refine z_go 90 rfl ?_
  refine r_v1 e1 rfl rfl rfl ?_
  refine z_go 90 rfl ?_
  refine z_div rfl (by decide) ?_
  refine z_go 90 rfl ?_
  rw [show nI (sN S 1 0) / (4 : Int32) = nI (sN S 1 0 / 4) from n_div (b := 4) (by omega) (by omega) (by omega)]
  rw [n_add]
  refine r_v1 e1 rfl rfl rfl ?_
  refine z_go 90 rfl ?_
  have H := zdown (P := fun k => (∀ j, j < k → ¬ sOkP S n j) → Z X MX11_placeFor (1, 127, (zr X h m S).2.1, (zr X h m S).2.2) (zr X h m S) 14 [some (.ref m), some (.int (nI n)), some (Value.int (nI (sN S 1 0 / 4 + 16 * k)))] [.int (nI (sN S 1 0)), .int (nI (sN S 1 0 / 4 + 16 * k + n))] (zX (zr X h m S) (some (.int (zoI (sPlace S n)))))) 600 (fun k hk ih hp => ?_) 0 (Nat.zero_le _) (fun j hj => by omega)
  · exact H
  refine z_br rfl rfl (fun c => ?_) (fun c => ?_) <;> (try dsimp only at c)
  · rw [n_lt (by omega) (by omega)] at c
    refine z_go 90 rfl ?_
    have : sPlace S n = none := by
      unfold sPlace
      rw [zFst_none.mpr]
      · rfl
      · intro j hj z
        by_cases q : j < k
        · exact hp j q z
        · have := z.1; omega
    rw [this]
    exact z_iret rfl rfl ⟨rfl, rfl⟩
  · rw [n_lt (by omega) (by omega)] at c
    refine z_go 90 rfl ?_
    refine z_cV zr_o (rc_isFree G I (sN S 1 0 / 4 + 16 * k) n (by omega) (by omega)) KX11_isFree IX11_isFree VX11_isFree rfl rfl rfl PX11_isFree rfl rfl rfl rfl ?_
    refine z_go 90 rfl ?_
    refine z_ite (p := sFree S (sN S 1 0 / 4 + 16 * k) n) (fun q => ?_) (fun q => ?_)
    · rw [zif_pos q]
      refine z_br rfl rfl (fun c => absurd c (by decide)) (fun _ => ?_)
      refine z_go 90 rfl ?_
      have : sPlace S n = some (sN S 1 0 / 4 + 16 * k) := by
        unfold sPlace
        rw [(zFst_some (k := k)).mpr ⟨by omega, ⟨by omega, q⟩, hp⟩]
        rfl
      rw [this]
      exact z_iret rfl rfl ⟨rfl, rfl⟩
    · rw [zif_neg q]
      refine z_br rfl rfl (fun _ => ?_) (fun c => absurd c (by decide))
      refine z_go 90 rfl ?_
      rw [show nI (sN S 1 0 / 4 + 16 * k) + (16 : Int32) = nI (sN S 1 0 / 4 + 16 * (k + 1)) from n_add _ 16]
      rw [n_add]
      refine r_v1 e1 rfl rfl rfl ?_
      refine z_go 90 rfl ?_
      refine ih (by omega) (fun j hj => ?_)
      by_cases e : j = k
      · subst e; exact fun z => q z.2
      · exact hp j (by omega)
theorem rc_old (G : zG X) (I : sInv S cc) (hh : 0 < sN S 25 0) : ZM X MX11_oldestLeaves 1 127 [.ref m] (zr X h m S) (zX (zr X h m (sOld S)) none) := by
  obtain ⟨I0, In, Ig, If, Ib, Iq, Ih, Im, Ic⟩ := id I
  have e25 : S 25 0 = nI (sN S 25 0) := sN_eq I0 rfl
  obtain ⟨c1, c2, c3, c4⟩ := Ic
  obtain ⟨q1, q2⟩ := Iq.1 0 hh
  obtain ⟨g1, g2, g3, -⟩ := Ib.1 _ q1
  have N2 := In.2.1
  refine zm_of_z G KX11_oldestLeaves rfl rfl ?_
  refine z_go 90 rfl ?_
  refine z_get zr_o rfl rfl rfl rfl ?_
  refine z_go 90 rfl ?_
  refine r_lv24 0 (sN_eq I0 rfl) rfl (by omega) rfl ?_
  refine z_go 90 rfl ?_
  refine r_v25 e25 rfl rfl rfl ?_
  refine z_go 90 rfl ?_
  rw [show nI (sN S 25 0) - (1 : Int32) = nI (sN S 25 0 - 1) from n_sub (b := 1) (by omega) (by omega)]
  refine r_p25 rfl rfl rfl ?_
  refine z_go 90 rfl ?_
  refine r_v25 rfl rfl rfl rfl ?_
  refine z_go 90 rfl ?_
  refine z_eqS (S' := zV (zV S 25 (fun _ => nI (sN S 25 0 - 1))) 24 (fun i => if i < 0 then S 24 (i + 1) else S 24 i)) ?_ ?_
  · rw [show (fun i => if i < 0 then S 24 (i + 1) else S 24 i) = zV S 25 (fun _ => nI (sN S 25 0 - 1)) 24 from funext fun i => if_neg (by omega), zV_same]
  have H := zdown (P := fun k => Z X MX11_oldestLeaves (1, 127, (zr X h m S).2.1, (zr X h m S).2.2) (zr X h m (zV (zV S 25 (fun _ => nI (sN S 25 0 - 1))) 24 (fun i => if i < k then S 24 (i + 1) else S 24 i))) 24 [some (.ref m), some (.int (nI (sN S 24 0))), some (Value.int (nI k))] [.int (nI (sN S 25 0 - 1)), .int (nI k)] (zX (zr X h m (sOld S)) none)) (sN S 25 0 - 1) (fun k hk ih => ?_) 0 (Nat.zero_le _)
  · exact H
  refine z_br rfl rfl (fun c => ?_) (fun c => ?_) <;> (try dsimp only at c)
  · rw [n_le (by omega) (by omega)] at c
    have : k = sN S 25 0 - 1 := by omega
    subst this
    refine z_go 90 rfl ?_
    refine z_get zr_o rfl rfl rfl rfl ?_
    refine z_go 90 rfl ?_
    refine r_st18 (sN S 24 0) (i_nI (by omega)) (by omega) rfl ?_
    refine z_go 90 rfl ?_
    refine z_get zr_o rfl rfl rfl rfl ?_
    refine z_go 90 rfl ?_
    refine r_lv19 (sN S 24 0) (sN_eq I0 rfl) (i_nI (by omega)) (by omega) rfl ?_
    refine z_go 90 rfl ?_
    refine z_get zr_o rfl rfl rfl rfl ?_
    refine z_go 90 rfl ?_
    refine r_lv19 (sN S 24 0) (sN_eq I0 rfl) (i_nI (by omega)) (by omega) rfl ?_
    refine z_go 90 rfl ?_
    refine z_get zr_o rfl rfl rfl rfl ?_
    refine z_go 90 rfl ?_
    refine r_lv20 (sN S 24 0) (sN_eq I0 rfl) (i_nI (by omega)) (by omega) rfl ?_
    refine z_go 90 rfl ?_
    rw [n_add]
    refine z_cV zr_o (rc_paint G (sN S 19 (sN S 24 0)) (sN S 19 (sN S 24 0) + sN S 20 (sN S 24 0)) 250 (by omega) (by omega)) KX11_paint IX11_paint VX11_paint rfl rfl rfl PX11_paint rfl rfl rfl rfl ?_
    refine z_go 90 rfl ?_
    exact z_vret rfl rfl ⟨rfl, rfl⟩
  · rw [n_le (by omega) (by omega)] at c
    refine z_go 90 rfl ?_
    refine z_get zr_o rfl rfl rfl rfl ?_
    refine z_go 90 rfl ?_
    refine z_get zr_o rfl rfl rfl rfl ?_
    refine z_go 90 rfl ?_
    rw [show nI k + (1 : Int32) = nI (k + 1) from n_succ k]
    refine r_lv24 (k + 1) (show (if k + 1 < k then _ else S 24 (k + 1)) = S 24 (k + 1) from if_neg (by omega)) (i_nI (by omega)) (by omega) rfl ?_
    refine z_go 90 rfl ?_
    refine r_st24 k (i_nI (by omega)) (by omega) rfl ?_
    refine z_go 90 rfl ?_
    rw [show nI k + (1 : Int32) = nI (k + 1) from n_succ k]
    refine r_v25 rfl rfl rfl rfl ?_
    refine z_go 90 rfl ?_
    refine z_eqS (S' := zV (zV S 25 (fun _ => nI (sN S 25 0 - 1))) 24 (fun i => if i < k + 1 then S 24 (i + 1) else S 24 i)) ?_ (ih (by omega))
    rw [zV_V]
    refine congrArg (zV (zV S 25 (fun _ => nI (sN S 25 0 - 1))) 24) (funext fun i => ?_)
    show (if i = k then S 24 (k + 1) else if i < k then S 24 (i + 1) else S 24 i) = _
    by_cases c1 : i = k
    · rw [if_pos c1, if_pos (by omega), c1]
    · by_cases c2 : i < k
      · rw [if_neg c1, if_pos c2, if_pos (by omega)]
      · rw [if_neg c1, if_neg c2, if_neg (by omega)]
end ZBL
end
