/-! ===== BEGIN printed: names, fields, word lists, decode rows ===== -/
def RX0 : String := "ShadowWard$Block"
def TX0 : u_T := fun k => match k with
  | 0 => ("ShadowWard$Region", "place", "I", true)
  | 1 => ("ShadowWard$Region", "number", "I", true)
  | 2 => ("ShadowWard$Region", "address", "I", true)
  | 3 => ("ShadowWard$Region", "size", "I", true)
  | 4 => ("ShadowWard$Region", "end", "I", true)
  | 5 => ("ShadowWard$Region", "siteGiven", "I", true)
  | 6 => ("ShadowWard$Region", "siteFreed", "I", false)
  | 7 => ("ShadowWard$Block", "kind", "I", true)
  | 8 => ("ShadowWard$Block", "chunk", "I", true)
  | 9 => ("ShadowWard$Block", "chunkBytes", "I", true)
  | 10 => ("ShadowWard$Block", "state", "I", false)
  | 11 => ("ShadowWard$Block", "found", "Z", false)
  | _ => ("ShadowWard$Block", "ledToByLost", "Z", false)
def tyX0 : Nat → FieldType := fun k => match k with
  | 0 => .int
  | 1 => .int
  | 2 => .int
  | 3 => .int
  | 4 => .int
  | 5 => .int
  | 6 => .int
  | 7 => .int
  | 8 => .int
  | 9 => .int
  | 10 => .int
  | 11 => .boolean
  | _ => .boolean
abbrev wsX00 : List Cond := u_ws RX0 TX0 13
theorem nmX0 : ∀ a, a < 13 → ∀ b, b < 13 → a ≠ b → (TX0 a).2.1 ≠ (TX0 b).2.1 := by decide +kernel
theorem tyX0_ok : ∀ k, k < 13 → parseFieldDescriptor (TX0 k).2.2.1 = some (tyX0 k) := by decide +kernel
abbrev cX0_init : ByteArray := prog_2_method_1_code
def yX0_init : MethodName := ⟨RX0, "<init>", "(IIIII)V"⟩
abbrev cX0_redzone : ByteArray := prog_2_method_2_code
def yX0_redzone : MethodName := ⟨RX0, "redzone", "(I)I"⟩
abbrev cX0_chunkBytesFor : ByteArray := prog_2_method_3_code
def yX0_chunkBytesFor : MethodName := ⟨RX0, "chunkBytesFor", "(I)I"⟩
abbrev cX0_isLost : ByteArray := prog_2_method_4_code
def yX0_isLost : MethodName := ⟨RX0, "isLost", "()Z"⟩
abbrev cX0_answer : ByteArray := prog_2_method_5_code
def yX0_answer : MethodName := ⟨RX0, "answer", "(I)I"⟩
def RX1 : String := "ShadowWard$Frame"
def TX1 : u_T := fun k => match k with
  | 0 => ("ShadowWard$Frame", "address", "I", true)
  | 1 => ("ShadowWard$Frame", "bytes", "I", true)
  | _ => ("ShadowWard$Frame", "variables", "Ljava/util/ArrayList;", true)
def tyX1 : Nat → FieldType := fun k => match k with
  | 0 => .int
  | 1 => .int
  | _ => .object "java/util/ArrayList"
abbrev wsX10 : List Cond := u_ws RX1 TX1 3
theorem nmX1 : ∀ a, a < 3 → ∀ b, b < 3 → a ≠ b → (TX1 a).2.1 ≠ (TX1 b).2.1 := by decide +kernel
theorem tyX1_ok : ∀ k, k < 3 → parseFieldDescriptor (TX1 k).2.2.1 = some (tyX1 k) := by decide +kernel
abbrev cX1_init : ByteArray := prog_3_method_1_code
def yX1_init : MethodName := ⟨RX1, "<init>", "(II)V"⟩
def RX2 : String := "ShadowWard$Frames"
def TX2 : u_T := fun k => match k with
  | 0 => ("ShadowWard$Frames", "memory", "LShadowWard$Memory;", true)
  | _ => ("ShadowWard$Frames", "frames", "Ljava/util/ArrayList;", true)
def tyX2 : Nat → FieldType := fun k => match k with
  | 0 => .object "ShadowWard$Memory"
  | _ => .object "java/util/ArrayList"
abbrev wsX20 : List Cond := u_ws RX2 TX2 2
theorem nmX2 : ∀ a, a < 2 → ∀ b, b < 2 → a ≠ b → (TX2 a).2.1 ≠ (TX2 b).2.1 := by decide +kernel
theorem tyX2_ok : ∀ k, k < 2 → parseFieldDescriptor (TX2 k).2.2.1 = some (tyX2 k) := by decide +kernel
abbrev cX2_init : ByteArray := prog_4_method_1_code
def yX2_init : MethodName := ⟨RX2, "<init>", "(LShadowWard$Memory;)V"⟩
abbrev cX2_count : ByteArray := prog_4_method_2_code
def yX2_count : MethodName := ⟨RX2, "count", "()I"⟩
abbrev cX2_spanOf : ByteArray := prog_4_method_3_code
def yX2_spanOf : MethodName := ⟨RX2, "spanOf", "(I)I"⟩
abbrev cX2_push : ByteArray := prog_4_method_4_code
def yX2_push : MethodName := ⟨RX2, "push", "(IIII)I"⟩
abbrev cX2_addVariable : ByteArray := prog_4_method_5_code
def yX2_addVariable : MethodName := ⟨RX2, "addVariable", "(LShadowWard$Frame;II)I"⟩
abbrev cX2_paintFrame : ByteArray := prog_4_method_6_code
def yX2_paintFrame : MethodName := ⟨RX2, "paintFrame", "(LShadowWard$Frame;)V"⟩
abbrev cX2_pop : ByteArray := prog_4_method_7_code
def yX2_pop : MethodName := ⟨RX2, "pop", "()V"⟩
abbrev cX2_setScope : ByteArray := prog_4_method_8_code
def yX2_setScope : MethodName := ⟨RX2, "setScope", "(LShadowWard$Variable;Z)Z"⟩
abbrev cX2_nearestTo : ByteArray := prog_4_method_9_code
def yX2_nearestTo : MethodName := ⟨RX2, "nearestTo", "(I)LShadowWard$Region;"⟩
def RX3 : String := "ShadowWard$Globals"
def TX3 : u_T := fun k => match k with
  | 0 => ("ShadowWard$Globals", "memory", "LShadowWard$Memory;", true)
  | _ => ("ShadowWard$Globals", "regions", "Ljava/util/ArrayList;", true)
def tyX3 : Nat → FieldType := fun k => match k with
  | 0 => .object "ShadowWard$Memory"
  | _ => .object "java/util/ArrayList"
abbrev wsX30 : List Cond := u_ws RX3 TX3 2
theorem nmX3 : ∀ a, a < 2 → ∀ b, b < 2 → a ≠ b → (TX3 a).2.1 ≠ (TX3 b).2.1 := by decide +kernel
theorem tyX3_ok : ∀ k, k < 2 → parseFieldDescriptor (TX3 k).2.2.1 = some (tyX3 k) := by decide +kernel
abbrev cX3_init : ByteArray := prog_5_method_1_code
def yX3_init : MethodName := ⟨RX3, "<init>", "(LShadowWard$Memory;)V"⟩
abbrev cX3_place : ByteArray := prog_5_method_2_code
def yX3_place : MethodName := ⟨RX3, "place", "(I)I"⟩
abbrev cX3_nextAddress : ByteArray := prog_5_method_3_code
def yX3_nextAddress : MethodName := ⟨RX3, "nextAddress", "()I"⟩
abbrev cX3_nearestTo : ByteArray := prog_5_method_4_code
def yX3_nearestTo : MethodName := ⟨RX3, "nearestTo", "(I)LShadowWard$Region;"⟩
def RX4 : String := "ShadowWard$Heap"
def TX4 : u_T := fun k => match k with
  | 0 => ("ShadowWard$Heap", "memory", "LShadowWard$Memory;", true)
  | 1 => ("ShadowWard$Heap", "mostHeldBytes", "I", true)
  | 2 => ("ShadowWard$Heap", "blocks", "Ljava/util/ArrayList;", true)
  | 3 => ("ShadowWard$Heap", "quarantine", "Ljava/util/ArrayList;", true)
  | 4 => ("ShadowWard$Heap", "owners", "[LShadowWard$Block;", true)
  | 5 => ("ShadowWard$Heap", "liveCount", "I", false)
  | 6 => ("ShadowWard$Heap", "liveBytes", "I", false)
  | _ => ("ShadowWard$Heap", "heldBytes", "I", false)
def tyX4 : Nat → FieldType := fun k => match k with
  | 0 => .object "ShadowWard$Memory"
  | 1 => .int
  | 2 => .object "java/util/ArrayList"
  | 3 => .object "java/util/ArrayList"
  | 4 => .array (.object "ShadowWard$Block")
  | 5 => .int
  | 6 => .int
  | _ => .int
abbrev wsX40 : List Cond := u_ws RX4 TX4 8
theorem nmX4 : ∀ a, a < 8 → ∀ b, b < 8 → a ≠ b → (TX4 a).2.1 ≠ (TX4 b).2.1 := by decide +kernel
theorem tyX4_ok : ∀ k, k < 8 → parseFieldDescriptor (TX4 k).2.2.1 = some (tyX4 k) := by decide +kernel
abbrev cX4_init : ByteArray := prog_6_method_1_code
def yX4_init : MethodName := ⟨RX4, "<init>", "(LShadowWard$Memory;I)V"⟩
abbrev cX4_give : ByteArray := prog_6_method_2_code
def yX4_give : MethodName := ⟨RX4, "give", "(III)LShadowWard$Block;"⟩
abbrev cX4_unitWithRoom : ByteArray := prog_6_method_3_code
def yX4_unitWithRoom : MethodName := ⟨RX4, "unitWithRoom", "(I)I"⟩
abbrev cX4_firstFreeRun : ByteArray := prog_6_method_4_code
def yX4_firstFreeRun : MethodName := ⟨RX4, "firstFreeRun", "(I)I"⟩
abbrev cX4_setOwner : ByteArray := prog_6_method_5_code
def yX4_setOwner : MethodName := ⟨RX4, "setOwner", "(LShadowWard$Block;LShadowWard$Block;)V"⟩
abbrev cX4_takeBack : ByteArray := prog_6_method_6_code
def yX4_takeBack : MethodName := ⟨RX4, "takeBack", "(LShadowWard$Block;I)V"⟩
abbrev cX4_releaseOldest : ByteArray := prog_6_method_7_code
def yX4_releaseOldest : MethodName := ⟨RX4, "releaseOldest", "()V"⟩
abbrev cX4_chunkOwner : ByteArray := prog_6_method_8_code
def yX4_chunkOwner : MethodName := ⟨RX4, "chunkOwner", "(I)LShadowWard$Block;"⟩
abbrev cX4_blockAt : ByteArray := prog_6_method_9_code
def yX4_blockAt : MethodName := ⟨RX4, "blockAt", "(I)LShadowWard$Block;"⟩
abbrev cX4_liveBlockWith : ByteArray := prog_6_method_10_code
def yX4_liveBlockWith : MethodName := ⟨RX4, "liveBlockWith", "(I)LShadowWard$Block;"⟩
abbrev cX4_nearestTo : ByteArray := prog_6_method_11_code
def yX4_nearestTo : MethodName := ⟨RX4, "nearestTo", "(I)LShadowWard$Region;"⟩
def RX5 : String := "ShadowWard$LostSearch"
def TX5 : u_T := fun k => match k with
  | 0 => ("ShadowWard$LostSearch", "memory", "LShadowWard$Memory;", true)
  | 1 => ("ShadowWard$LostSearch", "globals", "LShadowWard$Globals;", true)
  | 2 => ("ShadowWard$LostSearch", "frames", "LShadowWard$Frames;", true)
  | 3 => ("ShadowWard$LostSearch", "heap", "LShadowWard$Heap;", true)
  | _ => ("ShadowWard$LostSearch", "found", "Ljava/util/ArrayList;", true)
def tyX5 : Nat → FieldType := fun k => match k with
  | 0 => .object "ShadowWard$Memory"
  | 1 => .object "ShadowWard$Globals"
  | 2 => .object "ShadowWard$Frames"
  | 3 => .object "ShadowWard$Heap"
  | _ => .object "java/util/ArrayList"
abbrev wsX50 : List Cond := u_ws RX5 TX5 5
theorem nmX5 : ∀ a, a < 5 → ∀ b, b < 5 → a ≠ b → (TX5 a).2.1 ≠ (TX5 b).2.1 := by decide +kernel
theorem tyX5_ok : ∀ k, k < 5 → parseFieldDescriptor (TX5 k).2.2.1 = some (tyX5 k) := by decide +kernel
abbrev cX5_init : ByteArray := prog_7_method_1_code
def yX5_init : MethodName := ⟨RX5, "<init>", "(LShadowWard$Memory;LShadowWard$Globals;LShadowWard$Frames;LShadowWard$Heap;)V"⟩
abbrev cX5_firstFrom : ByteArray := prog_7_method_2_code
def yX5_firstFrom : MethodName := ⟨RX5, "firstFrom", "(IZ)I"⟩
abbrev cX5_count : ByteArray := prog_7_method_3_code
def yX5_count : MethodName := ⟨RX5, "count", "()I"⟩
abbrev cX5_markFound : ByteArray := prog_7_method_4_code
def yX5_markFound : MethodName := ⟨RX5, "markFound", "()V"⟩
abbrev cX5_findFrom : ByteArray := prog_7_method_5_code
def yX5_findFrom : MethodName := ⟨RX5, "findFrom", "(LShadowWard$Region;)V"⟩
abbrev cX5_markLedToByLost : ByteArray := prog_7_method_6_code
def yX5_markLedToByLost : MethodName := ⟨RX5, "markLedToByLost", "()V"⟩
abbrev cX5_markLedToFrom : ByteArray := prog_7_method_7_code
def yX5_markLedToFrom : MethodName := ⟨RX5, "markLedToFrom", "(LShadowWard$Block;)V"⟩
abbrev cX5_ledToFrom : ByteArray := prog_7_method_8_code
def yX5_ledToFrom : MethodName := ⟨RX5, "ledToFrom", "(I)LShadowWard$Block;"⟩
def RX6 : String := "ShadowWard$Memory"
def TX6 : u_T := fun k => match k with
  | 0 => ("ShadowWard$Memory", "size", "I", true)
  | 1 => ("ShadowWard$Memory", "stackStart", "I", true)
  | 2 => ("ShadowWard$Memory", "heapStart", "I", true)
  | 3 => ("ShadowWard$Memory", "bytes", "[I", true)
  | _ => ("ShadowWard$Memory", "shadows", "[I", true)
def tyX6 : Nat → FieldType := fun k => match k with
  | 0 => .int
  | 1 => .int
  | 2 => .int
  | 3 => .array .int
  | _ => .array .int
abbrev wsX60 : List Cond := u_ws RX6 TX6 5
theorem nmX6 : ∀ a, a < 5 → ∀ b, b < 5 → a ≠ b → (TX6 a).2.1 ≠ (TX6 b).2.1 := by decide +kernel
theorem tyX6_ok : ∀ k, k < 5 → parseFieldDescriptor (TX6 k).2.2.1 = some (tyX6 k) := by decide +kernel
abbrev cX6_init : ByteArray := prog_8_method_1_code
def yX6_init : MethodName := ⟨RX6, "<init>", "(I)V"⟩
abbrev cX6_isAddress : ByteArray := prog_8_method_2_code
def yX6_isAddress : MethodName := ⟨RX6, "isAddress", "(I)Z"⟩
abbrev cX6_holds : ByteArray := prog_8_method_3_code
def yX6_holds : MethodName := ⟨RX6, "holds", "(II)Z"⟩
abbrev cX6_granules : ByteArray := prog_8_method_4_code
def yX6_granules : MethodName := ⟨RX6, "granules", "()I"⟩
abbrev cX6_shadowOf : ByteArray := prog_8_method_5_code
def yX6_shadowOf : MethodName := ⟨RX6, "shadowOf", "(I)I"⟩
abbrev cX6_byteAt : ByteArray := prog_8_method_6_code
def yX6_byteAt : MethodName := ⟨RX6, "byteAt", "(I)I"⟩
abbrev cX6_paint : ByteArray := prog_8_method_7_code
def yX6_paint : MethodName := ⟨RX6, "paint", "(III)V"⟩
abbrev cX6_open : ByteArray := prog_8_method_8_code
def yX6_open : MethodName := ⟨RX6, "open", "(II)V"⟩
abbrev cX6_exchangeWhole : ByteArray := prog_8_method_9_code
def yX6_exchangeWhole : MethodName := ⟨RX6, "exchangeWhole", "(IIII)I"⟩
abbrev cX6_goodBytes : ByteArray := prog_8_method_10_code
def yX6_goodBytes : MethodName := ⟨RX6, "goodBytes", "(I)I"⟩
abbrev cX6_goodAddresses : ByteArray := prog_8_method_11_code
def yX6_goodAddresses : MethodName := ⟨RX6, "goodAddresses", "()I"⟩
abbrev cX6_isGood : ByteArray := prog_8_method_12_code
def yX6_isGood : MethodName := ⟨RX6, "isGood", "(I)Z"⟩
abbrev cX6_firstWrong : ByteArray := prog_8_method_13_code
def yX6_firstWrong : MethodName := ⟨RX6, "firstWrong", "(II)I"⟩
abbrev cX6_kindOfWrong : ByteArray := prog_8_method_14_code
def yX6_kindOfWrong : MethodName := ⟨RX6, "kindOfWrong", "(I)I"⟩
abbrev cX6_number : ByteArray := prog_8_method_15_code
def yX6_number : MethodName := ⟨RX6, "number", "(II)J"⟩
abbrev cX6_setNumber : ByteArray := prog_8_method_16_code
def yX6_setNumber : MethodName := ⟨RX6, "setNumber", "(IIJ)V"⟩
abbrev cX6_setBytes : ByteArray := prog_8_method_17_code
def yX6_setBytes : MethodName := ⟨RX6, "setBytes", "(III)V"⟩
abbrev cX6_moveBytes : ByteArray := prog_8_method_18_code
def yX6_moveBytes : MethodName := ⟨RX6, "moveBytes", "(III)V"⟩
def RX7 : String := "ShadowWard$Region"
def TX7 : u_T := fun k => match k with
  | 0 => ("ShadowWard$Region", "place", "I", true)
  | 1 => ("ShadowWard$Region", "number", "I", true)
  | 2 => ("ShadowWard$Region", "address", "I", true)
  | 3 => ("ShadowWard$Region", "size", "I", true)
  | 4 => ("ShadowWard$Region", "end", "I", true)
  | 5 => ("ShadowWard$Region", "siteGiven", "I", true)
  | _ => ("ShadowWard$Region", "siteFreed", "I", false)
def tyX7 : Nat → FieldType := fun k => match k with
  | 0 => .int
  | 1 => .int
  | 2 => .int
  | 3 => .int
  | 4 => .int
  | 5 => .int
  | _ => .int
abbrev wsX70 : List Cond := u_ws RX7 TX7 7
theorem nmX7 : ∀ a, a < 7 → ∀ b, b < 7 → a ≠ b → (TX7 a).2.1 ≠ (TX7 b).2.1 := by decide +kernel
theorem tyX7_ok : ∀ k, k < 7 → parseFieldDescriptor (TX7 k).2.2.1 = some (tyX7 k) := by decide +kernel
abbrev cX7_init : ByteArray := prog_9_method_1_code
def yX7_init : MethodName := ⟨RX7, "<init>", "(IIIII)V"⟩
abbrev cX7_hasByte : ByteArray := prog_9_method_2_code
def yX7_hasByte : MethodName := ⟨RX7, "hasByte", "(I)Z"⟩
abbrev cX7_farFrom : ByteArray := prog_9_method_3_code
def yX7_farFrom : MethodName := ⟨RX7, "farFrom", "(I)I"⟩
abbrev cX7_sideOf : ByteArray := prog_9_method_4_code
def yX7_sideOf : MethodName := ⟨RX7, "sideOf", "(I)I"⟩
def RX8 : String := "ShadowWard$Report"
def TX8 : u_T := fun k => match k with
  | 0 => ("ShadowWard$Report", "kind", "I", true)
  | 1 => ("ShadowWard$Report", "address", "I", true)
  | 2 => ("ShadowWard$Report", "bytes", "I", true)
  | 3 => ("ShadowWard$Report", "readOrWrite", "I", true)
  | 4 => ("ShadowWard$Report", "place", "I", false)
  | 5 => ("ShadowWard$Report", "number", "I", false)
  | 6 => ("ShadowWard$Report", "far", "I", false)
  | 7 => ("ShadowWard$Report", "side", "I", false)
  | 8 => ("ShadowWard$Report", "siteGiven", "I", false)
  | _ => ("ShadowWard$Report", "siteFreed", "I", false)
def tyX8 : Nat → FieldType := fun k => match k with
  | 0 => .int
  | 1 => .int
  | 2 => .int
  | 3 => .int
  | 4 => .int
  | 5 => .int
  | 6 => .int
  | 7 => .int
  | 8 => .int
  | _ => .int
abbrev wsX80 : List Cond := u_ws RX8 TX8 10
theorem nmX8 : ∀ a, a < 10 → ∀ b, b < 10 → a ≠ b → (TX8 a).2.1 ≠ (TX8 b).2.1 := by decide +kernel
theorem tyX8_ok : ∀ k, k < 10 → parseFieldDescriptor (TX8 k).2.2.1 = some (tyX8 k) := by decide +kernel
abbrev cX8_init : ByteArray := prog_10_method_1_code
def yX8_init : MethodName := ⟨RX8, "<init>", "(IIIILShadowWard$Region;)V"⟩
abbrev cX8_answer : ByteArray := prog_10_method_2_code
def yX8_answer : MethodName := ⟨RX8, "answer", "(I)I"⟩
def RX9 : String := "ShadowWard$Variable"
def TX9 : u_T := fun k => match k with
  | 0 => ("ShadowWard$Region", "place", "I", true)
  | 1 => ("ShadowWard$Region", "number", "I", true)
  | 2 => ("ShadowWard$Region", "address", "I", true)
  | 3 => ("ShadowWard$Region", "size", "I", true)
  | 4 => ("ShadowWard$Region", "end", "I", true)
  | 5 => ("ShadowWard$Region", "siteGiven", "I", true)
  | 6 => ("ShadowWard$Region", "siteFreed", "I", false)
  | _ => ("ShadowWard$Variable", "inScope", "Z", false)
def tyX9 : Nat → FieldType := fun k => match k with
  | 0 => .int
  | 1 => .int
  | 2 => .int
  | 3 => .int
  | 4 => .int
  | 5 => .int
  | 6 => .int
  | _ => .boolean
abbrev wsX90 : List Cond := u_ws RX9 TX9 8
theorem nmX9 : ∀ a, a < 8 → ∀ b, b < 8 → a ≠ b → (TX9 a).2.1 ≠ (TX9 b).2.1 := by decide +kernel
theorem tyX9_ok : ∀ k, k < 8 → parseFieldDescriptor (TX9 k).2.2.1 = some (tyX9 k) := by decide +kernel
abbrev cX9_init : ByteArray := prog_11_method_1_code
def yX9_init : MethodName := ⟨RX9, "<init>", "(III)V"⟩
def RX10 : String := "ShadowWard"
def TX10 : u_T := fun k => match k with
  | 0 => ("ShadowWard", "memory", "LShadowWard$Memory;", true)
  | 1 => ("ShadowWard", "globals", "LShadowWard$Globals;", true)
  | 2 => ("ShadowWard", "frames", "LShadowWard$Frames;", true)
  | 3 => ("ShadowWard", "heap", "LShadowWard$Heap;", true)
  | 4 => ("ShadowWard", "lostSearch", "LShadowWard$LostSearch;", true)
  | _ => ("ShadowWard", "reports", "Ljava/util/ArrayList;", true)
def tyX10 : Nat → FieldType := fun k => match k with
  | 0 => .object "ShadowWard$Memory"
  | 1 => .object "ShadowWard$Globals"
  | 2 => .object "ShadowWard$Frames"
  | 3 => .object "ShadowWard$Heap"
  | 4 => .object "ShadowWard$LostSearch"
  | _ => .object "java/util/ArrayList"
abbrev wsX100 : List Cond := u_ws RX10 TX10 6
theorem nmX10 : ∀ a, a < 6 → ∀ b, b < 6 → a ≠ b → (TX10 a).2.1 ≠ (TX10 b).2.1 := by decide +kernel
theorem tyX10_ok : ∀ k, k < 6 → parseFieldDescriptor (TX10 k).2.2.1 = some (tyX10 k) := by decide +kernel
abbrev cX10_init : ByteArray := prog_1_method_1_code
def yX10_init : MethodName := ⟨RX10, "<init>", "(II)V"⟩
abbrev cX10_global : ByteArray := prog_1_method_2_code
def yX10_global : MethodName := ⟨RX10, "global", "(I)I"⟩
abbrev cX10_enter : ByteArray := prog_1_method_3_code
def yX10_enter : MethodName := ⟨RX10, "enter", "(IIII)I"⟩
abbrev cX10_leave : ByteArray := prog_1_method_4_code
def yX10_leave : MethodName := ⟨RX10, "leave", "()I"⟩
abbrev cX10_scope : ByteArray := prog_1_method_5_code
def yX10_scope : MethodName := ⟨RX10, "scope", "(IIZ)Z"⟩
abbrev cX10_variable : ByteArray := prog_1_method_6_code
def yX10_variable : MethodName := ⟨RX10, "variable", "(II)I"⟩
abbrev cX10_allocate : ByteArray := prog_1_method_7_code
def yX10_allocate : MethodName := ⟨RX10, "allocate", "(III)I"⟩
abbrev cX10_free : ByteArray := prog_1_method_8_code
def yX10_free : MethodName := ⟨RX10, "free", "(III)Z"⟩
abbrev cX10_resize : ByteArray := prog_1_method_9_code
def yX10_resize : MethodName := ⟨RX10, "resize", "(III)I"⟩
abbrev cX10_load : ByteArray := prog_1_method_10_code
def yX10_load : MethodName := ⟨RX10, "load", "(II)J"⟩
abbrev cX10_store : ByteArray := prog_1_method_11_code
def yX10_store : MethodName := ⟨RX10, "store", "(IIJ)Z"⟩
abbrev cX10_fill : ByteArray := prog_1_method_12_code
def yX10_fill : MethodName := ⟨RX10, "fill", "(III)Z"⟩
abbrev cX10_copy : ByteArray := prog_1_method_13_code
def yX10_copy : MethodName := ⟨RX10, "copy", "(IIIZ)Z"⟩
abbrev cX10_length : ByteArray := prog_1_method_14_code
def yX10_length : MethodName := ⟨RX10, "length", "(I)I"⟩
abbrev cX10_text : ByteArray := prog_1_method_15_code
def yX10_text : MethodName := ⟨RX10, "text", "(II)I"⟩
abbrev cX10_compare : ByteArray := prog_1_method_16_code
def yX10_compare : MethodName := ⟨RX10, "compare", "(III)I"⟩
abbrev cX10_lock : ByteArray := prog_1_method_17_code
def yX10_lock : MethodName := ⟨RX10, "lock", "(II)I"⟩
abbrev cX10_unlock : ByteArray := prog_1_method_18_code
def yX10_unlock : MethodName := ⟨RX10, "unlock", "(II)I"⟩
abbrev cX10_report : ByteArray := prog_1_method_19_code
def yX10_report : MethodName := ⟨RX10, "report", "(II)I"⟩
abbrev cX10_block : ByteArray := prog_1_method_20_code
def yX10_block : MethodName := ⟨RX10, "block", "(II)I"⟩
abbrev cX10_shadow : ByteArray := prog_1_method_21_code
def yX10_shadow : MethodName := ⟨RX10, "shadow", "(I)I"⟩
abbrev cX10_peek : ByteArray := prog_1_method_22_code
def yX10_peek : MethodName := ⟨RX10, "peek", "(I)I"⟩
abbrev cX10_held : ByteArray := prog_1_method_23_code
def yX10_held : MethodName := ⟨RX10, "held", "(I)I"⟩
abbrev cX10_lost : ByteArray := prog_1_method_24_code
def yX10_lost : MethodName := ⟨RX10, "lost", "(IZ)I"⟩
abbrev cX10_told : ByteArray := prog_1_method_25_code
def yX10_told : MethodName := ⟨RX10, "told", "(I)I"⟩
abbrev cX10_demand : ByteArray := prog_1_method_26_code
def yX10_demand : MethodName := ⟨RX10, "demand", "(Z)V"⟩
abbrev cX10_demandIndex : ByteArray := prog_1_method_27_code
def yX10_demandIndex : MethodName := ⟨RX10, "demandIndex", "(II)V"⟩
abbrev cX10_isVariableSize : ByteArray := prog_1_method_28_code
def yX10_isVariableSize : MethodName := ⟨RX10, "isVariableSize", "(I)Z"⟩
abbrev cX10_isBlockKind : ByteArray := prog_1_method_29_code
def yX10_isBlockKind : MethodName := ⟨RX10, "isBlockKind", "(I)Z"⟩
abbrev cX10_isCount : ByteArray := prog_1_method_30_code
def yX10_isCount : MethodName := ⟨RX10, "isCount", "(I)Z"⟩
abbrev cX10_roundUp : ByteArray := prog_1_method_31_code
def yX10_roundUp : MethodName := ⟨RX10, "roundUp", "(II)I"⟩
abbrev cX10_variableOf : ByteArray := prog_1_method_32_code
def yX10_variableOf : MethodName := ⟨RX10, "variableOf", "(II)LShadowWard$Variable;"⟩
abbrev cX10_blockToFree : ByteArray := prog_1_method_33_code
def yX10_blockToFree : MethodName := ⟨RX10, "blockToFree", "(II)LShadowWard$Block;"⟩
abbrev cX10_permits : ByteArray := prog_1_method_34_code
def yX10_permits : MethodName := ⟨RX10, "permits", "(III)Z"⟩
abbrev cX10_tell : ByteArray := prog_1_method_35_code
def yX10_tell : MethodName := ⟨RX10, "tell", "(IIII)V"⟩
abbrev cX10_nearer : ByteArray := prog_1_method_36_code
def yX10_nearer : MethodName := ⟨RX10, "nearer", "(LShadowWard$Region;LShadowWard$Region;I)LShadowWard$Region;"⟩
def RX11 : String := "ShadowWardModel"
def TX11 : u_T := fun k => match k with
  | 0 => ("ShadowWardModel", "thrown", "I", false)
  | 1 => ("ShadowWardModel", "n", "I", true)
  | 2 => ("ShadowWardModel", "q", "I", true)
  | 3 => ("ShadowWardModel", "memory", "[B", true)
  | 4 => ("ShadowWardModel", "shadows", "[I", true)
  | 5 => ("ShadowWardModel", "globalAt", "[I", true)
  | 6 => ("ShadowWardModel", "globalSize", "[I", true)
  | 7 => ("ShadowWardModel", "globals", "I", false)
  | 8 => ("ShadowWardModel", "frameAt", "[I", true)
  | 9 => ("ShadowWardModel", "frameEnd", "[I", true)
  | 10 => ("ShadowWardModel", "variables", "[I", true)
  | 11 => ("ShadowWardModel", "varAt", "[I", true)
  | 12 => ("ShadowWardModel", "varSize", "[I", true)
  | 13 => ("ShadowWardModel", "outOfScope", "[Z", true)
  | 14 => ("ShadowWardModel", "frames", "I", false)
  | 15 => ("ShadowWardModel", "blockAt", "[I", true)
  | 16 => ("ShadowWardModel", "blockSize", "[I", true)
  | 17 => ("ShadowWardModel", "blockKind", "[I", true)
  | 18 => ("ShadowWardModel", "blockState", "[I", true)
  | 19 => ("ShadowWardModel", "chunkAt", "[I", true)
  | 20 => ("ShadowWardModel", "chunkSize", "[I", true)
  | 21 => ("ShadowWardModel", "givenAt", "[I", true)
  | 22 => ("ShadowWardModel", "freedAt", "[I", true)
  | 23 => ("ShadowWardModel", "blocks", "I", false)
  | 24 => ("ShadowWardModel", "quarantine", "[I", true)
  | 25 => ("ShadowWardModel", "held", "I", false)
  | 26 => ("ShadowWardModel", "reports", "[I", true)
  | 27 => ("ShadowWardModel", "reportCount", "I", false)
  | 28 => ("ShadowWardModel", "found", "[Z", true)
  | _ => ("ShadowWardModel", "moved", "[B", true)
def tyX11 : Nat → FieldType := fun k => match k with
  | 0 => .int
  | 1 => .int
  | 2 => .int
  | 3 => .array .byte
  | 4 => .array .int
  | 5 => .array .int
  | 6 => .array .int
  | 7 => .int
  | 8 => .array .int
  | 9 => .array .int
  | 10 => .array .int
  | 11 => .array .int
  | 12 => .array .int
  | 13 => .array .boolean
  | 14 => .int
  | 15 => .array .int
  | 16 => .array .int
  | 17 => .array .int
  | 18 => .array .int
  | 19 => .array .int
  | 20 => .array .int
  | 21 => .array .int
  | 22 => .array .int
  | 23 => .int
  | 24 => .array .int
  | 25 => .int
  | 26 => .array .int
  | 27 => .int
  | 28 => .array .boolean
  | _ => .array .byte
abbrev wsX110 : List Cond := u_ws RX11 TX11 30
theorem nmX11 : ∀ a, a < 30 → ∀ b, b < 30 → a ≠ b → (TX11 a).2.1 ≠ (TX11 b).2.1 := by decide +kernel
theorem tyX11_ok : ∀ k, k < 30 → parseFieldDescriptor (TX11 k).2.2.1 = some (tyX11 k) := by decide +kernel
abbrev cX11_init : ByteArray := prog_13_method_1_code
def yX11_init : MethodName := ⟨RX11, "<init>", "(II)V"⟩
abbrev cX11_thrown : ByteArray := prog_13_method_2_code
def yX11_thrown : MethodName := ⟨RX11, "thrown", "()I"⟩
abbrev cX11_refuses : ByteArray := prog_13_method_3_code
def yX11_refuses : MethodName := ⟨RX11, "refuses", "(I)Z"⟩
abbrev cX11_paint : ByteArray := prog_13_method_4_code
def yX11_paint : MethodName := ⟨RX11, "paint", "(III)V"⟩
abbrev cX11_opens : ByteArray := prog_13_method_5_code
def yX11_opens : MethodName := ⟨RX11, "opens", "(II)V"⟩
abbrev cX11_global : ByteArray := prog_13_method_6_code
def yX11_global : MethodName := ⟨RX11, "global", "(I)I"⟩
abbrev cX11_padded : ByteArray := prog_13_method_7_code
def yX11_padded : MethodName := ⟨RX11, "padded", "(I)I"⟩
abbrev cX11_isSize : ByteArray := prog_13_method_8_code
def yX11_isSize : MethodName := ⟨RX11, "isSize", "(I)Z"⟩
abbrev cX11_enter : ByteArray := prog_13_method_9_code
def yX11_enter : MethodName := ⟨RX11, "enter", "(IIII)I"⟩
abbrev cX11_leave : ByteArray := prog_13_method_10_code
def yX11_leave : MethodName := ⟨RX11, "leave", "()I"⟩
abbrev cX11_noVariable : ByteArray := prog_13_method_11_code
def yX11_noVariable : MethodName := ⟨RX11, "noVariable", "(II)Z"⟩
abbrev cX11_scope : ByteArray := prog_13_method_12_code
def yX11_scope : MethodName := ⟨RX11, "scope", "(IIZ)Z"⟩
abbrev cX11_variable : ByteArray := prog_13_method_13_code
def yX11_variable : MethodName := ⟨RX11, "variable", "(II)I"⟩
abbrev cX11_redzone : ByteArray := prog_13_method_14_code
def yX11_redzone : MethodName := ⟨RX11, "redzone", "(I)I"⟩
abbrev cX11_isFree : ByteArray := prog_13_method_15_code
def yX11_isFree : MethodName := ⟨RX11, "isFree", "(II)Z"⟩
abbrev cX11_placeFor : ByteArray := prog_13_method_16_code
def yX11_placeFor : MethodName := ⟨RX11, "placeFor", "(I)I"⟩
abbrev cX11_oldestLeaves : ByteArray := prog_13_method_17_code
def yX11_oldestLeaves : MethodName := ⟨RX11, "oldestLeaves", "()V"⟩
abbrev cX11_given : ByteArray := prog_13_method_18_code
def yX11_given : MethodName := ⟨RX11, "given", "(III)I"⟩
abbrev cX11_allocate : ByteArray := prog_13_method_19_code
def yX11_allocate : MethodName := ⟨RX11, "allocate", "(III)I"⟩
abbrev cX11_heldBytes : ByteArray := prog_13_method_20_code
def yX11_heldBytes : MethodName := ⟨RX11, "heldBytes", "()I"⟩
abbrev cX11_goes : ByteArray := prog_13_method_21_code
def yX11_goes : MethodName := ⟨RX11, "goes", "(II)V"⟩
abbrev cX11_blockIn : ByteArray := prog_13_method_22_code
def yX11_blockIn : MethodName := ⟨RX11, "blockIn", "(II)I"⟩
abbrev cX11_mayGo : ByteArray := prog_13_method_23_code
def yX11_mayGo : MethodName := ⟨RX11, "mayGo", "(II)I"⟩
abbrev cX11_free : ByteArray := prog_13_method_24_code
def yX11_free : MethodName := ⟨RX11, "free", "(III)Z"⟩
abbrev cX11_resize : ByteArray := prog_13_method_25_code
def yX11_resize : MethodName := ⟨RX11, "resize", "(III)I"⟩
abbrev cX11_far : ByteArray := prog_13_method_26_code
def yX11_far : MethodName := ⟨RX11, "far", "(JII)J"⟩
abbrev cX11_tells : ByteArray := prog_13_method_27_code
def yX11_tells : MethodName := ⟨RX11, "tells", "(IJIZ)V"⟩
abbrev cX11_regionAt : ByteArray := prog_13_method_28_code
def yX11_regionAt : MethodName := ⟨RX11, "regionAt", "(II)I"⟩
abbrev cX11_nearer : ByteArray := prog_13_method_29_code
def yX11_nearer : MethodName := ⟨RX11, "nearer", "(IJIIII)V"⟩
abbrev cX11_wrong : ByteArray := prog_13_method_30_code
def yX11_wrong : MethodName := ⟨RX11, "wrong", "(J)I"⟩
abbrev cX11_right : ByteArray := prog_13_method_31_code
def yX11_right : MethodName := ⟨RX11, "right", "(JIIIZ)Z"⟩
abbrev cX11_load : ByteArray := prog_13_method_32_code
def yX11_load : MethodName := ⟨RX11, "load", "(II)J"⟩
abbrev cX11_store : ByteArray := prog_13_method_33_code
def yX11_store : MethodName := ⟨RX11, "store", "(IIJ)Z"⟩
abbrev cX11_noAmount : ByteArray := prog_13_method_34_code
def yX11_noAmount : MethodName := ⟨RX11, "noAmount", "(I)Z"⟩
abbrev cX11_fill : ByteArray := prog_13_method_35_code
def yX11_fill : MethodName := ⟨RX11, "fill", "(III)Z"⟩
abbrev cX11_copies : ByteArray := prog_13_method_36_code
def yX11_copies : MethodName := ⟨RX11, "copies", "(IIIZ)Z"⟩
abbrev cX11_copy : ByteArray := prog_13_method_37_code
def yX11_copy : MethodName := ⟨RX11, "copy", "(IIIZ)Z"⟩
abbrev cX11_lengthOf : ByteArray := prog_13_method_38_code
def yX11_lengthOf : MethodName := ⟨RX11, "lengthOf", "(I)I"⟩
abbrev cX11_length : ByteArray := prog_13_method_39_code
def yX11_length : MethodName := ⟨RX11, "length", "(I)I"⟩
abbrev cX11_text : ByteArray := prog_13_method_40_code
def yX11_text : MethodName := ⟨RX11, "text", "(II)I"⟩
abbrev cX11_compare : ByteArray := prog_13_method_41_code
def yX11_compare : MethodName := ⟨RX11, "compare", "(III)I"⟩
abbrev cX11_change : ByteArray := prog_13_method_42_code
def yX11_change : MethodName := ⟨RX11, "change", "(IIII)I"⟩
abbrev cX11_lock : ByteArray := prog_13_method_43_code
def yX11_lock : MethodName := ⟨RX11, "lock", "(II)I"⟩
abbrev cX11_unlock : ByteArray := prog_13_method_44_code
def yX11_unlock : MethodName := ⟨RX11, "unlock", "(II)I"⟩
abbrev cX11_report : ByteArray := prog_13_method_45_code
def yX11_report : MethodName := ⟨RX11, "report", "(II)I"⟩
abbrev cX11_block : ByteArray := prog_13_method_46_code
def yX11_block : MethodName := ⟨RX11, "block", "(II)I"⟩
abbrev cX11_shadow : ByteArray := prog_13_method_47_code
def yX11_shadow : MethodName := ⟨RX11, "shadow", "(I)I"⟩
abbrev cX11_peek : ByteArray := prog_13_method_48_code
def yX11_peek : MethodName := ⟨RX11, "peek", "(I)I"⟩
abbrev cX11_held : ByteArray := prog_13_method_49_code
def yX11_held : MethodName := ⟨RX11, "held", "(I)I"⟩
abbrev cX11_word : ByteArray := prog_13_method_50_code
def yX11_word : MethodName := ⟨RX11, "word", "(I)J"⟩
abbrev cX11_leads : ByteArray := prog_13_method_51_code
def yX11_leads : MethodName := ⟨RX11, "leads", "(III)Z"⟩
abbrev cX11_isRooted : ByteArray := prog_13_method_52_code
def yX11_isRooted : MethodName := ⟨RX11, "isRooted", "(I)Z"⟩
abbrev cX11_walk : ByteArray := prog_13_method_53_code
def yX11_walk : MethodName := ⟨RX11, "walk", "()V"⟩
abbrev cX11_isLost : ByteArray := prog_13_method_54_code
def yX11_isLost : MethodName := ⟨RX11, "isLost", "(I)Z"⟩
abbrev cX11_isAlone : ByteArray := prog_13_method_55_code
def yX11_isAlone : MethodName := ⟨RX11, "isAlone", "(I)Z"⟩
abbrev cX11_lost : ByteArray := prog_13_method_56_code
def yX11_lost : MethodName := ⟨RX11, "lost", "(IZ)I"⟩
abbrev cX11_told : ByteArray := prog_13_method_57_code
def yX11_told : MethodName := ⟨RX11, "told", "(I)I"⟩
abbrev cX11_good : ByteArray := prog_13_method_58_code
def yX11_good : MethodName := ⟨RX11, "good", "()I"⟩
def RJx145de : String := "java/io/Serializable"
def TJx145de : u_T := fun k => match k with
  | _ => ("", "", "", false)
def tyJx145de : Nat → FieldType := fun k => match k with
  | _ => .int
abbrev wsJx145de0 : List Cond := u_ws RJx145de TJx145de 0
theorem nmJx145de : ∀ a, a < 0 → ∀ b, b < 0 → a ≠ b → (TJx145de a).2.1 ≠ (TJx145de b).2.1 := by decide +kernel
theorem tyJx145de_ok : ∀ k, k < 0 → parseFieldDescriptor (TJx145de k).2.2.1 = some (tyJx145de k) := by decide +kernel
def RJx8e188 : String := "java/lang/Cloneable"
def TJx8e188 : u_T := fun k => match k with
  | _ => ("", "", "", false)
def tyJx8e188 : Nat → FieldType := fun k => match k with
  | _ => .int
abbrev wsJx8e1880 : List Cond := u_ws RJx8e188 TJx8e188 0
theorem nmJx8e188 : ∀ a, a < 0 → ∀ b, b < 0 → a ≠ b → (TJx8e188 a).2.1 ≠ (TJx8e188 b).2.1 := by decide +kernel
theorem tyJx8e188_ok : ∀ k, k < 0 → parseFieldDescriptor (TJx8e188 k).2.2.1 = some (tyJx8e188 k) := by decide +kernel
def RJ6 : String := "java/lang/Integer"
def TJ6 : u_T := fun k => match k with
  | _ => ("", "", "", false)
def tyJ6 : Nat → FieldType := fun k => match k with
  | _ => .int
abbrev wsJ60 : List Cond := u_ws RJ6 TJ6 0
theorem nmJ6 : ∀ a, a < 0 → ∀ b, b < 0 → a ≠ b → (TJ6 a).2.1 ≠ (TJ6 b).2.1 := by decide +kernel
theorem tyJ6_ok : ∀ k, k < 0 → parseFieldDescriptor (TJ6 k).2.2.1 = some (tyJ6 k) := by decide +kernel
abbrev cJ6_compare_7cf53 : ByteArray := prog_20_method_40_code
def yJ6_compare_7cf53 : MethodName := ⟨RJ6, "compare", "(II)I"⟩
def RJxab1ab : String := "java/lang/Iterable"
def TJxab1ab : u_T := fun k => match k with
  | _ => ("", "", "", false)
def tyJxab1ab : Nat → FieldType := fun k => match k with
  | _ => .int
abbrev wsJxab1ab0 : List Cond := u_ws RJxab1ab TJxab1ab 0
theorem nmJxab1ab : ∀ a, a < 0 → ∀ b, b < 0 → a ≠ b → (TJxab1ab a).2.1 ≠ (TJxab1ab b).2.1 := by decide +kernel
theorem tyJxab1ab_ok : ∀ k, k < 0 → parseFieldDescriptor (TJxab1ab k).2.2.1 = some (tyJxab1ab k) := by decide +kernel
def RJ9 : String := "java/lang/Math"
def TJ9 : u_T := fun k => match k with
  | _ => ("", "", "", false)
def tyJ9 : Nat → FieldType := fun k => match k with
  | _ => .int
abbrev wsJ90 : List Cond := u_ws RJ9 TJ9 0
theorem nmJ9 : ∀ a, a < 0 → ∀ b, b < 0 → a ≠ b → (TJ9 a).2.1 ≠ (TJ9 b).2.1 := by decide +kernel
theorem tyJ9_ok : ∀ k, k < 0 → parseFieldDescriptor (TJ9 k).2.2.1 = some (tyJ9 k) := by decide +kernel
abbrev cJ9_abs_067f4 : ByteArray := prog_22_method_61_code
def yJ9_abs_067f4 : MethodName := ⟨RJ9, "abs", "(J)J"⟩
abbrev cJ9_max_7cf53 : ByteArray := prog_22_method_65_code
def yJ9_max_7cf53 : MethodName := ⟨RJ9, "max", "(II)I"⟩
abbrev cJ9_min_7cf53 : ByteArray := prog_22_method_69_code
def yJ9_min_7cf53 : MethodName := ⟨RJ9, "min", "(II)I"⟩
def RJ0 : String := "java/lang/String"
def TJ0 : u_T := fun k => match k with
  | _ => ("", "", "", false)
def tyJ0 : Nat → FieldType := fun k => match k with
  | _ => .int
abbrev wsJ00 : List Cond := u_ws RJ0 TJ0 0
theorem nmJ0 : ∀ a, a < 0 → ∀ b, b < 0 → a ≠ b → (TJ0 a).2.1 ≠ (TJ0 b).2.1 := by decide +kernel
theorem tyJ0_ok : ∀ k, k < 0 → parseFieldDescriptor (TJ0 k).2.2.1 = some (tyJ0 k) := by decide +kernel
def RJ10 : String := "java/lang/System"
def TJ10 : u_T := fun k => match k with
  | _ => ("", "", "", false)
def tyJ10 : Nat → FieldType := fun k => match k with
  | _ => .int
abbrev wsJ100 : List Cond := u_ws RJ10 TJ10 0
theorem nmJ10 : ∀ a, a < 0 → ∀ b, b < 0 → a ≠ b → (TJ10 a).2.1 ≠ (TJ10 b).2.1 := by decide +kernel
theorem tyJ10_ok : ∀ k, k < 0 → parseFieldDescriptor (TJ10 k).2.2.1 = some (tyJ10 k) := by decide +kernel
def RJxa1e45 : String := "java/util/AbstractCollection"
def TJxa1e45 : u_T := fun k => match k with
  | _ => ("", "", "", false)
def tyJxa1e45 : Nat → FieldType := fun k => match k with
  | _ => .int
abbrev wsJxa1e450 : List Cond := u_ws RJxa1e45 TJxa1e45 0
theorem nmJxa1e45 : ∀ a, a < 0 → ∀ b, b < 0 → a ≠ b → (TJxa1e45 a).2.1 ≠ (TJxa1e45 b).2.1 := by decide +kernel
theorem tyJxa1e45_ok : ∀ k, k < 0 → parseFieldDescriptor (TJxa1e45 k).2.2.1 = some (tyJxa1e45 k) := by decide +kernel
abbrev cJxa1e45_init_da8c8 : ByteArray := prog_27_method_1_code
def yJxa1e45_init_da8c8 : MethodName := ⟨RJxa1e45, "<init>", "()V"⟩
def RJxc12de : String := "java/util/AbstractList"
def TJxc12de : u_T := fun k => match k with
  | _ => ("", "", "", false)
def tyJxc12de : Nat → FieldType := fun k => match k with
  | _ => .int
abbrev wsJxc12de0 : List Cond := u_ws RJxc12de TJxc12de 0
theorem nmJxc12de : ∀ a, a < 0 → ∀ b, b < 0 → a ≠ b → (TJxc12de a).2.1 ≠ (TJxc12de b).2.1 := by decide +kernel
theorem tyJxc12de_ok : ∀ k, k < 0 → parseFieldDescriptor (TJxc12de k).2.2.1 = some (tyJxc12de k) := by decide +kernel
abbrev cJxc12de_init_da8c8 : ByteArray := prog_28_method_1_code
def yJxc12de_init_da8c8 : MethodName := ⟨RJxc12de, "<init>", "()V"⟩
def RJx4a65c : String := "java/util/ArrayList"
def TJx4a65c : u_T := fun k => match k with
  | 0 => ("java/util/AbstractList", "modCount", "I", false)
  | 1 => ("java/util/ArrayList", "elementData", "[Ljava/lang/Object;", false)
  | _ => ("java/util/ArrayList", "size", "I", false)
def tyJx4a65c : Nat → FieldType := fun k => match k with
  | 0 => .int
  | 1 => .array (.object "java/lang/Object")
  | _ => .int
abbrev wsJx4a65c0 : List Cond := u_ws RJx4a65c TJx4a65c 3
theorem nmJx4a65c : ∀ a, a < 3 → ∀ b, b < 3 → a ≠ b → (TJx4a65c a).2.1 ≠ (TJx4a65c b).2.1 := by decide +kernel
theorem tyJx4a65c_ok : ∀ k, k < 3 → parseFieldDescriptor (TJx4a65c k).2.2.1 = some (tyJx4a65c k) := by decide +kernel
abbrev cJx4a65c_init_da8c8 : ByteArray := prog_29_method_2_code
def yJx4a65c_init_da8c8 : MethodName := ⟨RJx4a65c, "<init>", "()V"⟩
abbrev cJx4a65c_grow_92f84 : ByteArray := prog_29_method_6_code
def yJx4a65c_grow_92f84 : MethodName := ⟨RJx4a65c, "grow", "(I)[Ljava/lang/Object;"⟩
abbrev cJx4a65c_grow_d5877 : ByteArray := prog_29_method_7_code
def yJx4a65c_grow_d5877 : MethodName := ⟨RJx4a65c, "grow", "()[Ljava/lang/Object;"⟩
abbrev cJx4a65c_size_8abf5 : ByteArray := prog_29_method_8_code
def yJx4a65c_size_8abf5 : MethodName := ⟨RJx4a65c, "size", "()I"⟩
abbrev cJx4a65c_isEmpty_aae02 : ByteArray := prog_29_method_9_code
def yJx4a65c_isEmpty_aae02 : MethodName := ⟨RJx4a65c, "isEmpty", "()Z"⟩
abbrev cJx4a65c_elementData_915e3 : ByteArray := prog_29_method_18_code
def yJx4a65c_elementData_915e3 : MethodName := ⟨RJx4a65c, "elementData", "(I)Ljava/lang/Object;"⟩
abbrev cJx4a65c_get_915e3 : ByteArray := prog_29_method_20_code
def yJx4a65c_get_915e3 : MethodName := ⟨RJx4a65c, "get", "(I)Ljava/lang/Object;"⟩
abbrev cJx4a65c_add_72be8 : ByteArray := prog_29_method_24_code
def yJx4a65c_add_72be8 : MethodName := ⟨RJx4a65c, "add", "(Ljava/lang/Object;[Ljava/lang/Object;I)V"⟩
abbrev cJx4a65c_add_9ea2d : ByteArray := prog_29_method_25_code
def yJx4a65c_add_9ea2d : MethodName := ⟨RJx4a65c, "add", "(Ljava/lang/Object;)Z"⟩
abbrev cJx4a65c_remove_915e3 : ByteArray := prog_29_method_29_code
def yJx4a65c_remove_915e3 : MethodName := ⟨RJx4a65c, "remove", "(I)Ljava/lang/Object;"⟩
abbrev cJx4a65c_fastRemove_b59b0 : ByteArray := prog_29_method_39_code
def yJx4a65c_fastRemove_b59b0 : MethodName := ⟨RJx4a65c, "fastRemove", "([Ljava/lang/Object;I)V"⟩
abbrev cJx4a65c_clear_da8c8 : ByteArray := prog_29_method_40_code
def yJx4a65c_clear_da8c8 : MethodName := ⟨RJx4a65c, "clear", "()V"⟩
def RJ7 : String := "java/util/Arrays"
def TJ7 : u_T := fun k => match k with
  | _ => ("", "", "", false)
def tyJ7 : Nat → FieldType := fun k => match k with
  | _ => .int
abbrev wsJ70 : List Cond := u_ws RJ7 TJ7 0
theorem nmJ7 : ∀ a, a < 0 → ∀ b, b < 0 → a ≠ b → (TJ7 a).2.1 ≠ (TJ7 b).2.1 := by decide +kernel
theorem tyJ7_ok : ∀ k, k < 0 → parseFieldDescriptor (TJ7 k).2.2.1 = some (tyJ7 k) := by decide +kernel
abbrev cJ7_copyOf_1904c : ByteArray := prog_30_method_119_code
def yJ7_copyOf_1904c : MethodName := ⟨RJ7, "copyOf", "([Ljava/lang/Object;I)[Ljava/lang/Object;"⟩
abbrev cJ7_copyOf_6403c : ByteArray := prog_30_method_120_code
def yJ7_copyOf_6403c : MethodName := ⟨RJ7, "copyOf", "([Ljava/lang/Object;ILjava/lang/Class;)[Ljava/lang/Object;"⟩
def RJx5ef63 : String := "java/util/Collection"
def TJx5ef63 : u_T := fun k => match k with
  | _ => ("", "", "", false)
def tyJx5ef63 : Nat → FieldType := fun k => match k with
  | _ => .int
abbrev wsJx5ef630 : List Cond := u_ws RJx5ef63 TJx5ef63 0
theorem nmJx5ef63 : ∀ a, a < 0 → ∀ b, b < 0 → a ≠ b → (TJx5ef63 a).2.1 ≠ (TJx5ef63 b).2.1 := by decide +kernel
theorem tyJx5ef63_ok : ∀ k, k < 0 → parseFieldDescriptor (TJx5ef63 k).2.2.1 = some (tyJx5ef63 k) := by decide +kernel
def RJxbd725 : String := "java/util/List"
def TJxbd725 : u_T := fun k => match k with
  | _ => ("", "", "", false)
def tyJxbd725 : Nat → FieldType := fun k => match k with
  | _ => .int
abbrev wsJxbd7250 : List Cond := u_ws RJxbd725 TJxbd725 0
theorem nmJxbd725 : ∀ a, a < 0 → ∀ b, b < 0 → a ≠ b → (TJxbd725 a).2.1 ≠ (TJxbd725 b).2.1 := by decide +kernel
theorem tyJxbd725_ok : ∀ k, k < 0 → parseFieldDescriptor (TJxbd725 k).2.2.1 = some (tyJxbd725 k) := by decide +kernel
def RJ15 : String := "java/util/Objects"
def TJ15 : u_T := fun k => match k with
  | _ => ("", "", "", false)
def tyJ15 : Nat → FieldType := fun k => match k with
  | _ => .int
abbrev wsJ150 : List Cond := u_ws RJ15 TJ15 0
theorem nmJ15 : ∀ a, a < 0 → ∀ b, b < 0 → a ≠ b → (TJ15 a).2.1 ≠ (TJ15 b).2.1 := by decide +kernel
theorem tyJ15_ok : ∀ k, k < 0 → parseFieldDescriptor (TJ15 k).2.2.1 = some (tyJ15 k) := by decide +kernel
abbrev cJ15_checkIndex_7cf53 : ByteArray := prog_33_method_17_code
def yJ15_checkIndex_7cf53 : MethodName := ⟨RJ15, "checkIndex", "(II)I"⟩
def RJxf0a74 : String := "java/util/RandomAccess"
def TJxf0a74 : u_T := fun k => match k with
  | _ => ("", "", "", false)
def tyJxf0a74 : Nat → FieldType := fun k => match k with
  | _ => .int
abbrev wsJxf0a740 : List Cond := u_ws RJxf0a74 TJxf0a74 0
theorem nmJxf0a74 : ∀ a, a < 0 → ∀ b, b < 0 → a ≠ b → (TJxf0a74 a).2.1 ≠ (TJxf0a74 b).2.1 := by decide +kernel
theorem tyJxf0a74_ok : ∀ k, k < 0 → parseFieldDescriptor (TJxf0a74 k).2.2.1 = some (tyJxf0a74 k) := by decide +kernel
def RJxa66e6 : String := "java/util/SequencedCollection"
def TJxa66e6 : u_T := fun k => match k with
  | _ => ("", "", "", false)
def tyJxa66e6 : Nat → FieldType := fun k => match k with
  | _ => .int
abbrev wsJxa66e60 : List Cond := u_ws RJxa66e6 TJxa66e6 0
theorem nmJxa66e6 : ∀ a, a < 0 → ∀ b, b < 0 → a ≠ b → (TJxa66e6 a).2.1 ≠ (TJxa66e6 b).2.1 := by decide +kernel
theorem tyJxa66e6_ok : ∀ k, k < 0 → parseFieldDescriptor (TJxa66e6 k).2.2.1 = some (tyJxa66e6 k) := by decide +kernel
def RJ8 : String := "jdk/internal/util/ArraysSupport"
def TJ8 : u_T := fun k => match k with
  | _ => ("", "", "", false)
def tyJ8 : Nat → FieldType := fun k => match k with
  | _ => .int
abbrev wsJ80 : List Cond := u_ws RJ8 TJ8 0
theorem nmJ8 : ∀ a, a < 0 → ∀ b, b < 0 → a ≠ b → (TJ8 a).2.1 ≠ (TJ8 b).2.1 := by decide +kernel
theorem tyJ8_ok : ∀ k, k < 0 → parseFieldDescriptor (TJ8 k).2.2.1 = some (tyJ8 k) := by decide +kernel
abbrev cJ8_newLength_cabcc : ByteArray := prog_36_method_27_code
def yJ8_newLength_cabcc : MethodName := ⟨RJ8, "newLength", "(III)I"⟩
abbrev cJ8_hugeLength_7cf53 : ByteArray := prog_36_method_28_code
def yJ8_hugeLength_7cf53 : MethodName := ⟨RJ8, "hugeLength", "(II)I"⟩
def RJ3 : String := "jdk/internal/util/Preconditions"
def TJ3 : u_T := fun k => match k with
  | _ => ("", "", "", false)
def tyJ3 : Nat → FieldType := fun k => match k with
  | _ => .int
abbrev wsJ30 : List Cond := u_ws RJ3 TJ3 0
theorem nmJ3 : ∀ a, a < 0 → ∀ b, b < 0 → a ≠ b → (TJ3 a).2.1 ≠ (TJ3 b).2.1 := by decide +kernel
theorem tyJ3_ok : ∀ k, k < 0 → parseFieldDescriptor (TJ3 k).2.2.1 = some (tyJ3 k) := by decide +kernel
abbrev cJ3_checkIndex_8e157 : ByteArray := prog_37_method_11_code
def yJ3_checkIndex_8e157 : MethodName := ⟨RJ3, "checkIndex", "(IILjava/util/function/BiFunction;)I"⟩
def RL : String := "ShadowWardLaw"
abbrev cL_cell : ByteArray := method_2_code
def yL_cell : MethodName := ⟨RL, "cell", "([II)I"⟩
abbrev cL_global : ByteArray := method_3_code
def yL_global : MethodName := ⟨RL, "global", "(LShadowWard;I[J)I"⟩
abbrev cL_enter : ByteArray := method_4_code
def yL_enter : MethodName := ⟨RL, "enter", "(LShadowWard;IIII[J)I"⟩
abbrev cL_leave : ByteArray := method_5_code
def yL_leave : MethodName := ⟨RL, "leave", "(LShadowWard;[J)I"⟩
abbrev cL_scope : ByteArray := method_6_code
def yL_scope : MethodName := ⟨RL, "scope", "(LShadowWard;IIZ[J)I"⟩
abbrev cL_variable : ByteArray := method_7_code
def yL_variable : MethodName := ⟨RL, "variable", "(LShadowWard;II[J)I"⟩
abbrev cL_allocate : ByteArray := method_8_code
def yL_allocate : MethodName := ⟨RL, "allocate", "(LShadowWard;III[J)I"⟩
abbrev cL_free : ByteArray := method_9_code
def yL_free : MethodName := ⟨RL, "free", "(LShadowWard;III[J)I"⟩
abbrev cL_resize : ByteArray := method_10_code
def yL_resize : MethodName := ⟨RL, "resize", "(LShadowWard;III[J)I"⟩
abbrev cL_load : ByteArray := method_11_code
def yL_load : MethodName := ⟨RL, "load", "(LShadowWard;II[J)I"⟩
abbrev cL_store : ByteArray := method_12_code
def yL_store : MethodName := ⟨RL, "store", "(LShadowWard;IIJ[J)I"⟩
abbrev cL_fill : ByteArray := method_13_code
def yL_fill : MethodName := ⟨RL, "fill", "(LShadowWard;III[J)I"⟩
abbrev cL_copy : ByteArray := method_14_code
def yL_copy : MethodName := ⟨RL, "copy", "(LShadowWard;IIIZ[J)I"⟩
abbrev cL_compare : ByteArray := method_15_code
def yL_compare : MethodName := ⟨RL, "compare", "(LShadowWard;III[J)I"⟩
abbrev cL_lock : ByteArray := method_16_code
def yL_lock : MethodName := ⟨RL, "lock", "(LShadowWard;II[J)I"⟩
abbrev cL_unlock : ByteArray := method_17_code
def yL_unlock : MethodName := ⟨RL, "unlock", "(LShadowWard;II[J)I"⟩
abbrev cL_report : ByteArray := method_18_code
def yL_report : MethodName := ⟨RL, "report", "(LShadowWard;II[J)I"⟩
abbrev cL_block : ByteArray := method_19_code
def yL_block : MethodName := ⟨RL, "block", "(LShadowWard;II[J)I"⟩
abbrev cL_shadow : ByteArray := method_20_code
def yL_shadow : MethodName := ⟨RL, "shadow", "(LShadowWard;I[J)I"⟩
abbrev cL_peek : ByteArray := method_21_code
def yL_peek : MethodName := ⟨RL, "peek", "(LShadowWard;I[J)I"⟩
abbrev cL_held : ByteArray := method_22_code
def yL_held : MethodName := ⟨RL, "held", "(LShadowWard;I[J)I"⟩
abbrev cL_told : ByteArray := method_23_code
def yL_told : MethodName := ⟨RL, "told", "(LShadowWard;I[J)I"⟩
abbrev cL_law : ByteArray := code
def yL_law : MethodName := ⟨RL, "law", "([I)Z"⟩
abbrev vwCl : List vw_C := [(RJx4a65c, TJx4a65c, 3), (RX0, TX0, 13), (RX1, TX1, 3), (RX2, TX2, 2), (RX3, TX3, 2), (RX4, TX4, 8), (RX5, TX5, 5), (RX6, TX6, 5), (RX7, TX7, 7), (RX8, TX8, 10), (RX9, TX9, 8), (RX10, TX10, 6), (RX11, TX11, 30)]
