/-! the links of the tables, by number: fields, methods, methods across the nest, classes -/
def zFR : List (String × Nat × String × String × String) := [("ShadowWard$Memory", 9, "ShadowWard$Memory", "size", "I"),
  ("ShadowWard$Heap", 35, "ShadowWard$Memory", "size", "I"),
  ("ShadowWard", 164, "ShadowWard$Memory", "size", "I"),
  ("ShadowWard$Memory", 15, "ShadowWard$Memory", "stackStart", "I"),
  ("ShadowWard$Globals", 26, "ShadowWard$Memory", "stackStart", "I"),
  ("ShadowWard$Frames", 52, "ShadowWard$Memory", "stackStart", "I"),
  ("ShadowWard", 276, "ShadowWard$Memory", "stackStart", "I"),
  ("ShadowWard$Memory", 18, "ShadowWard$Memory", "heapStart", "I"),
  ("ShadowWard$Heap", 43, "ShadowWard$Memory", "heapStart", "I"),
  ("ShadowWard$Frames", 37, "ShadowWard$Memory", "heapStart", "I"),
  ("ShadowWard", 283, "ShadowWard$Memory", "heapStart", "I"),
  ("ShadowWard$Memory", 21, "ShadowWard$Memory", "bytes", "[I"),
  ("ShadowWard$Memory", 25, "ShadowWard$Memory", "shadows", "[I"),
  ("java/util/ArrayList", 39, "java/util/ArrayList", "DEFAULTCAPACITY_EMPTY_ELEMENTDATA", "[Ljava/lang/Object;"),
  ("java/util/ArrayList", 9, "java/util/ArrayList", "elementData", "[Ljava/lang/Object;"),
  ("java/util/ArrayList", 48, "java/util/ArrayList", "size", "I"),
  ("java/util/AbstractList", 7, "java/util/AbstractList", "modCount", "I"),
  ("java/util/ArrayList", 63, "java/util/ArrayList", "modCount", "I"),
  ("ShadowWard$Globals", 18, "ShadowWard$Globals", "memory", "LShadowWard$Memory;"),
  ("ShadowWard$Globals", 12, "ShadowWard$Globals", "regions", "Ljava/util/ArrayList;"),
  ("ShadowWard$LostSearch", 78, "ShadowWard$Globals", "regions", "Ljava/util/ArrayList;"),
  ("ShadowWard", 224, "ShadowWard$Globals", "regions", "Ljava/util/ArrayList;"),
  ("ShadowWard$Frames", 18, "ShadowWard$Frames", "memory", "LShadowWard$Memory;"),
  ("ShadowWard$Frames", 12, "ShadowWard$Frames", "frames", "Ljava/util/ArrayList;"),
  ("ShadowWard$LostSearch", 94, "ShadowWard$Frames", "frames", "Ljava/util/ArrayList;"),
  ("ShadowWard", 250, "ShadowWard$Frames", "frames", "Ljava/util/ArrayList;"),
  ("ShadowWard$Heap", 31, "ShadowWard$Heap", "memory", "LShadowWard$Memory;"),
  ("ShadowWard$Heap", 40, "ShadowWard$Heap", "mostHeldBytes", "I"),
  ("ShadowWard", 221, "ShadowWard$Heap", "mostHeldBytes", "I"),
  ("ShadowWard$Heap", 12, "ShadowWard$Heap", "blocks", "Ljava/util/ArrayList;"),
  ("ShadowWard$LostSearch", 46, "ShadowWard$Heap", "blocks", "Ljava/util/ArrayList;"),
  ("ShadowWard", 202, "ShadowWard$Heap", "blocks", "Ljava/util/ArrayList;"),
  ("ShadowWard$Heap", 18, "ShadowWard$Heap", "quarantine", "Ljava/util/ArrayList;"),
  ("ShadowWard", 212, "ShadowWard$Heap", "quarantine", "Ljava/util/ArrayList;"),
  ("ShadowWard$Heap", 48, "ShadowWard$Heap", "owners", "[LShadowWard$Block;"),
  ("ShadowWard$Heap", 21, "ShadowWard$Heap", "liveCount", "I"),
  ("ShadowWard$LostSearch", 69, "ShadowWard$Heap", "liveCount", "I"),
  ("ShadowWard", 227, "ShadowWard$Heap", "liveCount", "I"),
  ("ShadowWard$Heap", 25, "ShadowWard$Heap", "liveBytes", "I"),
  ("ShadowWard", 233, "ShadowWard$Heap", "liveBytes", "I"),
  ("ShadowWard$Heap", 28, "ShadowWard$Heap", "heldBytes", "I"),
  ("ShadowWard", 230, "ShadowWard$Heap", "heldBytes", "I"),
  ("ShadowWard$LostSearch", 18, "ShadowWard$LostSearch", "memory", "LShadowWard$Memory;"),
  ("ShadowWard$LostSearch", 22, "ShadowWard$LostSearch", "globals", "LShadowWard$Globals;"),
  ("ShadowWard$LostSearch", 26, "ShadowWard$LostSearch", "frames", "LShadowWard$Frames;"),
  ("ShadowWard$LostSearch", 30, "ShadowWard$LostSearch", "heap", "LShadowWard$Heap;"),
  ("ShadowWard$LostSearch", 12, "ShadowWard$LostSearch", "found", "Ljava/util/ArrayList;"),
  ("ShadowWard", 12, "ShadowWard", "memory", "LShadowWard$Memory;"),
  ("ShadowWard", 23, "ShadowWard", "globals", "LShadowWard$Globals;"),
  ("ShadowWard", 30, "ShadowWard", "frames", "LShadowWard$Frames;"),
  ("ShadowWard", 39, "ShadowWard", "heap", "LShadowWard$Heap;"),
  ("ShadowWard", 48, "ShadowWard", "lostSearch", "LShadowWard$LostSearch;"),
  ("ShadowWard", 55, "ShadowWard", "reports", "Ljava/util/ArrayList;"),
  ("ShadowWard$Report", 30, "ShadowWard$Report", "kind", "I"),
  ("ShadowWard$Report", 33, "ShadowWard$Report", "address", "I"),
  ("ShadowWard$Report", 36, "ShadowWard$Report", "bytes", "I"),
  ("ShadowWard$Report", 39, "ShadowWard$Report", "readOrWrite", "I"),
  ("ShadowWard$Report", 9, "ShadowWard$Report", "place", "I"),
  ("ShadowWard$Report", 15, "ShadowWard$Report", "number", "I"),
  ("ShadowWard$Report", 18, "ShadowWard$Report", "far", "I"),
  ("ShadowWard$Report", 21, "ShadowWard$Report", "side", "I"),
  ("ShadowWard$Report", 24, "ShadowWard$Report", "siteGiven", "I"),
  ("ShadowWard$Report", 27, "ShadowWard$Report", "siteFreed", "I"),
  ("java/lang/Throwable", 198, "java/lang/Throwable", "backtrace", "Ljava/lang/Object;"),
  ("java/lang/Throwable", 13, "java/lang/Throwable", "UNASSIGNED_STACK", "[Ljava/lang/StackTraceElement;"),
  ("java/lang/Throwable", 20, "java/lang/Throwable", "SUPPRESSED_SENTINEL", "Ljava/util/List;"),
  ("java/lang/Throwable", 198, "java/lang/Throwable", "backtrace", "Ljava/lang/Object;"),
  ("java/lang/Throwable", 31, "java/lang/Throwable", "detailMessage", "Ljava/lang/String;"),
  ("java/lang/Throwable", 7, "java/lang/Throwable", "cause", "Ljava/lang/Throwable;"),
  ("java/lang/Throwable", 17, "java/lang/Throwable", "stackTrace", "[Ljava/lang/StackTraceElement;"),
  ("java/lang/Throwable", 24, "java/lang/Throwable", "suppressedExceptions", "Ljava/util/List;"),
  ("ShadowWard$Region", 7, "ShadowWard$Region", "place", "I"),
  ("ShadowWard$Report", 42, "ShadowWard$Region", "place", "I"),
  ("ShadowWard$Region", 13, "ShadowWard$Region", "number", "I"),
  ("ShadowWard$Report", 45, "ShadowWard$Region", "number", "I"),
  ("ShadowWard", 215, "ShadowWard$Block", "number", "I"),
  ("ShadowWard$Region", 16, "ShadowWard$Region", "address", "I"),
  ("ShadowWard$Heap", 76, "ShadowWard$Block", "address", "I"),
  ("ShadowWard$LostSearch", 106, "ShadowWard$Region", "address", "I"),
  ("ShadowWard$Block", 39, "ShadowWard$Block", "address", "I"),
  ("ShadowWard", 97, "ShadowWard$Variable", "address", "I"),
  ("ShadowWard$Frames", 81, "ShadowWard$Variable", "address", "I"),
  ("ShadowWard$LostSearch", 124, "ShadowWard$Block", "address", "I"),
  ("ShadowWard", 113, "ShadowWard$Block", "address", "I"),
  ("ShadowWard", 300, "ShadowWard$Region", "address", "I"),
  ("ShadowWard$Region", 19, "ShadowWard$Region", "size", "I"),
  ("ShadowWard$Block", 42, "ShadowWard$Block", "size", "I"),
  ("ShadowWard$Heap", 114, "ShadowWard$Block", "size", "I"),
  ("ShadowWard$Frames", 82, "ShadowWard$Variable", "size", "I"),
  ("ShadowWard", 128, "ShadowWard$Block", "size", "I"),
  ("ShadowWard$Region", 22, "ShadowWard$Region", "end", "I"),
  ("ShadowWard$Globals", 52, "ShadowWard$Region", "end", "I"),
  ("ShadowWard$LostSearch", 109, "ShadowWard$Region", "end", "I"),
  ("ShadowWard$LostSearch", 125, "ShadowWard$Block", "end", "I"),
  ("ShadowWard$Region", 25, "ShadowWard$Region", "siteGiven", "I"),
  ("ShadowWard$Report", 53, "ShadowWard$Region", "siteGiven", "I"),
  ("ShadowWard$Block", 45, "ShadowWard$Block", "siteGiven", "I"),
  ("ShadowWard$Report", 54, "ShadowWard$Region", "siteFreed", "I"),
  ("ShadowWard$Block", 48, "ShadowWard$Block", "siteFreed", "I"),
  ("ShadowWard$Heap", 111, "ShadowWard$Block", "siteFreed", "I"),
  ("ShadowWard$Frame", 16, "ShadowWard$Frame", "address", "I"),
  ("ShadowWard$Frames", 49, "ShadowWard$Frame", "address", "I"),
  ("ShadowWard$Frame", 20, "ShadowWard$Frame", "bytes", "I"),
  ("ShadowWard$Frames", 90, "ShadowWard$Frame", "bytes", "I"),
  ("ShadowWard$Frame", 10, "ShadowWard$Frame", "variables", "Ljava/util/ArrayList;"),
  ("ShadowWard$LostSearch", 98, "ShadowWard$Frame", "variables", "Ljava/util/ArrayList;"),
  ("ShadowWard$Frames", 70, "ShadowWard$Frame", "variables", "Ljava/util/ArrayList;"),
  ("ShadowWard", 254, "ShadowWard$Frame", "variables", "Ljava/util/ArrayList;"),
  ("ShadowWard$Variable", 9, "ShadowWard$Variable", "inScope", "Z"),
  ("ShadowWard$LostSearch", 103, "ShadowWard$Variable", "inScope", "Z"),
  ("ShadowWard$Frames", 93, "ShadowWard$Variable", "inScope", "Z"),
  ("ShadowWard$Block", 19, "ShadowWard$Block", "kind", "I"),
  ("ShadowWard", 264, "ShadowWard$Block", "kind", "I"),
  ("ShadowWard$Block", 22, "ShadowWard$Block", "chunk", "I"),
  ("ShadowWard$Heap", 83, "ShadowWard$Block", "chunk", "I"),
  ("ShadowWard$Block", 28, "ShadowWard$Block", "chunkBytes", "I"),
  ("ShadowWard$Heap", 73, "ShadowWard$Block", "chunkBytes", "I"),
  ("ShadowWard$Block", 15, "ShadowWard$Block", "state", "I"),
  ("ShadowWard$Heap", 108, "ShadowWard$Block", "state", "I"),
  ("ShadowWard", 261, "ShadowWard$Block", "state", "I"),
  ("ShadowWard$Block", 35, "ShadowWard$Block", "found", "Z"),
  ("ShadowWard$LostSearch", 76, "ShadowWard$Block", "found", "Z"),
  ("ShadowWard$LostSearch", 65, "ShadowWard$Block", "ledToByLost", "Z"),
  ("ShadowWardModel", 85, "ShadowWardModel", "thrown", "I"),
  ("ShadowWardModel", 78, "ShadowWardModel", "n", "I"),
  ("ShadowWardModel", 82, "ShadowWardModel", "q", "I"),
  ("ShadowWardModel", 7, "ShadowWardModel", "memory", "[B"),
  ("ShadowWardModel", 13, "ShadowWardModel", "shadows", "[I"),
  ("ShadowWardModel", 17, "ShadowWardModel", "globalAt", "[I"),
  ("ShadowWardModel", 20, "ShadowWardModel", "globalSize", "[I"),
  ("ShadowWardModel", 92, "ShadowWardModel", "globals", "I"),
  ("ShadowWardModel", 23, "ShadowWardModel", "frameAt", "[I"),
  ("ShadowWardModel", 26, "ShadowWardModel", "frameEnd", "[I"),
  ("ShadowWardModel", 29, "ShadowWardModel", "variables", "[I"),
  ("ShadowWardModel", 32, "ShadowWardModel", "varAt", "[I"),
  ("ShadowWardModel", 35, "ShadowWardModel", "varSize", "[I"),
  ("ShadowWardModel", 38, "ShadowWardModel", "outOfScope", "[Z"),
  ("ShadowWardModel", 102, "ShadowWardModel", "frames", "I"),
  ("ShadowWardModel", 42, "ShadowWardModel", "blockAt", "[I"),
  ("ShadowWardModel", 45, "ShadowWardModel", "blockSize", "[I"),
  ("ShadowWardModel", 48, "ShadowWardModel", "blockKind", "[I"),
  ("ShadowWardModel", 51, "ShadowWardModel", "blockState", "[I"),
  ("ShadowWardModel", 54, "ShadowWardModel", "chunkAt", "[I"),
  ("ShadowWardModel", 57, "ShadowWardModel", "chunkSize", "[I"),
  ("ShadowWardModel", 60, "ShadowWardModel", "givenAt", "[I"),
  ("ShadowWardModel", 63, "ShadowWardModel", "freedAt", "[I"),
  ("ShadowWardModel", 117, "ShadowWardModel", "blocks", "I"),
  ("ShadowWardModel", 66, "ShadowWardModel", "quarantine", "[I"),
  ("ShadowWardModel", 123, "ShadowWardModel", "held", "I"),
  ("ShadowWardModel", 69, "ShadowWardModel", "reports", "[I"),
  ("ShadowWardModel", 157, "ShadowWardModel", "reportCount", "I"),
  ("ShadowWardModel", 72, "ShadowWardModel", "found", "[Z"),
  ("ShadowWardModel", 75, "ShadowWardModel", "moved", "[B")]
def zML : List (String × Nat × MethodName) := [("ShadowWardLaw", 94, ⟨"ShadowWard", "<init>", "(II)V"⟩),
  ("ShadowWard", 1, ⟨"java/lang/Object", "<init>", "()V"⟩),
  ("ShadowWard", 9, ⟨"ShadowWard$Memory", "<init>", "(I)V"⟩),
  ("ShadowWard$Memory", 3, ⟨"java/lang/Object", "<init>", "()V"⟩),
  ("ShadowWard$Memory", 28, ⟨"ShadowWard$Memory", "paint", "(III)V"⟩),
  ("ShadowWard$Memory", 36, ⟨"java/lang/Math", "min", "(II)I"⟩),
  ("ShadowWard$Memory", 41, ⟨"java/lang/Math", "max", "(II)I"⟩),
  ("ShadowWard", 20, ⟨"ShadowWard$Globals", "<init>", "(LShadowWard$Memory;)V"⟩),
  ("ShadowWard$Globals", 3, ⟨"java/lang/Object", "<init>", "()V"⟩),
  ("ShadowWard$Globals", 11, ⟨"java/util/ArrayList", "<init>", "()V"⟩),
  ("java/util/ArrayList", 1, ⟨"java/util/AbstractList", "<init>", "()V"⟩),
  ("java/util/AbstractList", 1, ⟨"java/util/AbstractCollection", "<init>", "()V"⟩),
  ("java/util/AbstractCollection", 1, ⟨"java/lang/Object", "<init>", "()V"⟩),
  ("ShadowWard", 29, ⟨"ShadowWard$Frames", "<init>", "(LShadowWard$Memory;)V"⟩),
  ("ShadowWard$Frames", 3, ⟨"java/lang/Object", "<init>", "()V"⟩),
  ("ShadowWard$Frames", 11, ⟨"java/util/ArrayList", "<init>", "()V"⟩),
  ("ShadowWard", 36, ⟨"ShadowWard$Heap", "<init>", "(LShadowWard$Memory;I)V"⟩),
  ("ShadowWard$Heap", 3, ⟨"java/lang/Object", "<init>", "()V"⟩),
  ("ShadowWard$Heap", 11, ⟨"java/util/ArrayList", "<init>", "()V"⟩),
  ("ShadowWard", 45, ⟨"ShadowWard$LostSearch", "<init>", "(LShadowWard$Memory;LShadowWard$Globals;LShadowWard$Frames;LShadowWard$Heap;)V"⟩),
  ("ShadowWard$LostSearch", 3, ⟨"java/lang/Object", "<init>", "()V"⟩),
  ("ShadowWard$LostSearch", 11, ⟨"java/util/ArrayList", "<init>", "()V"⟩),
  ("ShadowWard", 54, ⟨"java/util/ArrayList", "<init>", "()V"⟩),
  ("ShadowWardLaw", 149, ⟨"ShadowWard", "length", "(I)I"⟩),
  ("ShadowWard", 141, ⟨"ShadowWard", "permits", "(III)Z"⟩),
  ("ShadowWard", 267, ⟨"ShadowWard$Memory", "firstWrong", "(II)I"⟩),
  ("ShadowWard$Memory", 59, ⟨"ShadowWard$Memory", "isGood", "(I)Z"⟩),
  ("ShadowWard$Memory", 52, ⟨"ShadowWard$Memory", "isAddress", "(I)Z"⟩),
  ("ShadowWard$Memory", 56, ⟨"ShadowWard$Memory", "shadowOf", "(I)I"⟩),
  ("ShadowWard$Memory", 48, ⟨"ShadowWard$Memory", "goodBytes", "(I)I"⟩),
  ("ShadowWard", 270, ⟨"ShadowWard$Memory", "kindOfWrong", "(I)I"⟩),
  ("ShadowWard", 160, ⟨"ShadowWard", "tell", "(IIII)V"⟩),
  ("ShadowWard", 187, ⟨"java/util/ArrayList", "size", "()I"⟩),
  ("ShadowWard", 273, ⟨"ShadowWard$Memory", "isAddress", "(I)Z"⟩),
  ("ShadowWard", 279, ⟨"ShadowWard$Globals", "nearestTo", "(I)LShadowWard$Region;"⟩),
  ("ShadowWard$Globals", 34, ⟨"java/util/ArrayList", "size", "()I"⟩),
  ("ShadowWard$Globals", 48, ⟨"java/util/ArrayList", "get", "(I)Ljava/lang/Object;"⟩),
  ("java/util/ArrayList", 118, ⟨"java/util/Objects", "checkIndex", "(II)I"⟩),
  ("java/util/Objects", 105, ⟨"jdk/internal/util/Preconditions", "checkIndex", "(IILjava/util/function/BiFunction;)I"⟩),
  ("java/util/ArrayList", 123, ⟨"java/util/ArrayList", "elementData", "(I)Ljava/lang/Object;"⟩),
  ("ShadowWard", 295, ⟨"ShadowWard$Region", "farFrom", "(I)I"⟩),
  ("ShadowWard", 175, ⟨"java/lang/Integer", "compare", "(II)I"⟩),
  ("ShadowWard", 286, ⟨"ShadowWard$Frames", "nearestTo", "(I)LShadowWard$Region;"⟩),
  ("ShadowWard$Frames", 34, ⟨"ShadowWard$Frames", "count", "()I"⟩),
  ("ShadowWard$Frames", 22, ⟨"java/util/ArrayList", "size", "()I"⟩),
  ("ShadowWard$Frames", 43, ⟨"java/util/ArrayList", "get", "(I)Ljava/lang/Object;"⟩),
  ("ShadowWard", 287, ⟨"ShadowWard$Heap", "nearestTo", "(I)LShadowWard$Region;"⟩),
  ("ShadowWard$Heap", 52, ⟨"java/util/ArrayList", "size", "()I"⟩),
  ("ShadowWard$Heap", 131, ⟨"java/util/ArrayList", "get", "(I)Ljava/lang/Object;"⟩),
  ("ShadowWard", 288, ⟨"ShadowWard$Report", "<init>", "(IIIILShadowWard$Region;)V"⟩),
  ("ShadowWard$Report", 3, ⟨"java/lang/Object", "<init>", "()V"⟩),
  ("ShadowWard$Report", 46, ⟨"ShadowWard$Region", "farFrom", "(I)I"⟩),
  ("ShadowWard$Report", 50, ⟨"ShadowWard$Region", "sideOf", "(I)I"⟩),
  ("ShadowWard", 291, ⟨"java/util/ArrayList", "add", "(Ljava/lang/Object;)Z"⟩),
  ("java/util/ArrayList", 131, ⟨"java/util/ArrayList", "add", "(Ljava/lang/Object;[Ljava/lang/Object;I)V"⟩),
  ("java/util/ArrayList", 129, ⟨"java/util/ArrayList", "grow", "()[Ljava/lang/Object;"⟩),
  ("java/util/ArrayList", 69, ⟨"java/util/ArrayList", "grow", "(I)[Ljava/lang/Object;"⟩),
  ("java/util/ArrayList", 73, ⟨"jdk/internal/util/ArraysSupport", "newLength", "(III)I"⟩),
  ("jdk/internal/util/ArraysSupport", 194, ⟨"java/lang/Math", "max", "(II)I"⟩),
  ("jdk/internal/util/ArraysSupport", 201, ⟨"jdk/internal/util/ArraysSupport", "hugeLength", "(II)I"⟩),
  ("java/util/ArrayList", 66, ⟨"java/util/Arrays", "copyOf", "([Ljava/lang/Object;I)[Ljava/lang/Object;"⟩),
  ("java/util/Arrays", 86, ⟨"java/lang/Object", "getClass", "()Ljava/lang/Class;"⟩),
  ("java/util/Arrays", 300, ⟨"java/util/Arrays", "copyOf", "([Ljava/lang/Object;ILjava/lang/Class;)[Ljava/lang/Object;"⟩),
  ("java/util/Arrays", 304, ⟨"java/lang/Math", "min", "(II)I"⟩),
  ("java/util/Arrays", 150, ⟨"java/lang/System", "arraycopy", "(Ljava/lang/Object;ILjava/lang/Object;II)V"⟩),
  ("java/util/ArrayList", 79, ⟨"java/lang/Math", "max", "(II)I"⟩),
  ("ShadowWard", 165, ⟨"ShadowWard$Memory", "byteAt", "(I)I"⟩),
  ("ShadowWardLaw", 153, ⟨"ShadowWard", "text", "(II)I"⟩),
  ("ShadowWard", 168, ⟨"ShadowWard", "length", "(I)I"⟩),
  ("ShadowWard", 171, ⟨"ShadowWard", "copy", "(IIIZ)Z"⟩),
  ("ShadowWard", 106, ⟨"ShadowWard", "isCount", "(I)Z"⟩),
  ("ShadowWard", 59, ⟨"ShadowWard", "demand", "(Z)V"⟩),
  ("java/lang/Throwable", 1, ⟨"java/lang/Object", "<init>", "()V"⟩),
  ("java/lang/Throwable", 27, ⟨"java/lang/Throwable", "fillInStackTrace", "()Ljava/lang/Throwable;"⟩),
  ("java/lang/Throwable", 202, ⟨"java/lang/Throwable", "fillInStackTrace", "(I)Ljava/lang/Throwable;"⟩),
  ("ShadowWard", 244, ⟨"java/lang/IllegalArgumentException", "<init>", "(Ljava/lang/String;)V"⟩),
  ("java/lang/IllegalArgumentException", 7, ⟨"java/lang/RuntimeException", "<init>", "(Ljava/lang/String;)V"⟩),
  ("java/lang/RuntimeException", 7, ⟨"java/lang/Exception", "<init>", "(Ljava/lang/String;)V"⟩),
  ("java/lang/Exception", 7, ⟨"java/lang/Throwable", "<init>", "(Ljava/lang/String;)V"⟩),
  ("ShadowWard", 156, ⟨"java/lang/Math", "abs", "(J)J"⟩),
  ("ShadowWard", 137, ⟨"ShadowWard$Memory", "moveBytes", "(III)V"⟩),
  ("ShadowWard$Memory", 44, ⟨"ShadowWard$Memory", "holds", "(II)Z"⟩),
  ("ShadowWard$Memory", 65, ⟨"java/lang/System", "arraycopy", "(Ljava/lang/Object;ILjava/lang/Object;II)V"⟩),
  ("ShadowWardLaw", 181, ⟨"ShadowWard", "lost", "(IZ)I"⟩),
  ("ShadowWard", 217, ⟨"ShadowWard$LostSearch", "firstFrom", "(IZ)I"⟩),
  ("ShadowWard$LostSearch", 34, ⟨"ShadowWard$LostSearch", "markFound", "()V"⟩),
  ("ShadowWard$LostSearch", 73, ⟨"java/util/ArrayList", "clear", "()V"⟩),
  ("ShadowWard$LostSearch", 51, ⟨"java/util/ArrayList", "size", "()I"⟩),
  ("ShadowWard$LostSearch", 55, ⟨"java/util/ArrayList", "get", "(I)Ljava/lang/Object;"⟩),
  ("ShadowWard$LostSearch", 85, ⟨"ShadowWard$LostSearch", "findFrom", "(LShadowWard$Region;)V"⟩),
  ("ShadowWard$LostSearch", 112, ⟨"ShadowWard$LostSearch", "ledToFrom", "(I)LShadowWard$Block;"⟩),
  ("ShadowWard$LostSearch", 126, ⟨"ShadowWard$Memory", "number", "(II)J"⟩),
  ("ShadowWard$Memory", 62, ⟨"ShadowWard$Memory", "byteAt", "(I)I"⟩),
  ("ShadowWard$LostSearch", 132, ⟨"ShadowWard$Heap", "liveBlockWith", "(I)LShadowWard$Block;"⟩),
  ("ShadowWard$Heap", 123, ⟨"ShadowWard$Heap", "chunkOwner", "(I)LShadowWard$Block;"⟩),
  ("ShadowWard$Heap", 127, ⟨"ShadowWard$Block", "hasByte", "(I)Z"⟩),
  ("ShadowWard$LostSearch", 116, ⟨"java/util/ArrayList", "add", "(Ljava/lang/Object;)Z"⟩),
  ("ShadowWard$LostSearch", 89, ⟨"ShadowWard$Frames", "count", "()I"⟩),
  ("ShadowWard$LostSearch", 37, ⟨"ShadowWard$LostSearch", "markLedToByLost", "()V"⟩),
  ("ShadowWard$LostSearch", 61, ⟨"ShadowWard$Block", "isLost", "()Z"⟩),
  ("ShadowWard$LostSearch", 120, ⟨"ShadowWard$LostSearch", "markLedToFrom", "(LShadowWard$Block;)V"⟩),
  ("ShadowWard$LostSearch", 40, ⟨"java/lang/Math", "max", "(II)I"⟩),
  ("ShadowWardLaw", 88, ⟨"ShadowWardLaw", "cell", "([II)I"⟩),
  ("ShadowWardLaw", 100, ⟨"ShadowWardLaw", "global", "(LShadowWard;I[J)I"⟩),
  ("ShadowWardLaw", 7, ⟨"ShadowWard", "global", "(I)I"⟩),
  ("ShadowWard", 63, ⟨"ShadowWard$Globals", "place", "(I)I"⟩),
  ("ShadowWard$Globals", 22, ⟨"ShadowWard$Globals", "nextAddress", "()I"⟩),
  ("ShadowWard$Globals", 37, ⟨"ShadowWard$Region", "<init>", "(IIIII)V"⟩),
  ("ShadowWard$Region", 1, ⟨"java/lang/Object", "<init>", "()V"⟩),
  ("ShadowWard$Globals", 40, ⟨"java/util/ArrayList", "add", "(Ljava/lang/Object;)Z"⟩),
  ("ShadowWard$Globals", 44, ⟨"ShadowWard$Memory", "open", "(II)V"⟩),
  ("ShadowWardLaw", 107, ⟨"ShadowWardLaw", "enter", "(LShadowWard;IIII[J)I"⟩),
  ("ShadowWardLaw", 15, ⟨"ShadowWard", "enter", "(IIII)I"⟩),
  ("ShadowWard", 67, ⟨"ShadowWard", "isVariableSize", "(I)Z"⟩),
  ("ShadowWard", 71, ⟨"ShadowWard$Frames", "push", "(IIII)I"⟩),
  ("ShadowWard$Frames", 30, ⟨"ShadowWard$Frames", "spanOf", "(I)I"⟩),
  ("ShadowWard$Frames", 55, ⟨"ShadowWard$Frame", "<init>", "(II)V"⟩),
  ("ShadowWard$Frame", 1, ⟨"java/lang/Object", "<init>", "()V"⟩),
  ("ShadowWard$Frame", 9, ⟨"java/util/ArrayList", "<init>", "()V"⟩),
  ("ShadowWard$Frames", 58, ⟨"ShadowWard$Frames", "addVariable", "(LShadowWard$Frame;II)I"⟩),
  ("ShadowWard$Frames", 75, ⟨"ShadowWard$Variable", "<init>", "(III)V"⟩),
  ("ShadowWard$Variable", 3, ⟨"ShadowWard$Region", "<init>", "(IIIII)V"⟩),
  ("ShadowWard$Frames", 62, ⟨"java/util/ArrayList", "add", "(Ljava/lang/Object;)Z"⟩),
  ("ShadowWard$Frames", 66, ⟨"ShadowWard$Frames", "paintFrame", "(LShadowWard$Frame;)V"⟩),
  ("ShadowWard$Frames", 78, ⟨"ShadowWard$Memory", "paint", "(III)V"⟩),
  ("ShadowWard$Frames", 84, ⟨"ShadowWard$Memory", "open", "(II)V"⟩),
  ("ShadowWardLaw", 111, ⟨"ShadowWardLaw", "leave", "(LShadowWard;[J)I"⟩),
  ("ShadowWardLaw", 19, ⟨"ShadowWard", "leave", "()I"⟩),
  ("ShadowWard", 75, ⟨"ShadowWard$Frames", "count", "()I"⟩),
  ("ShadowWard", 83, ⟨"java/lang/IllegalStateException", "<init>", "(Ljava/lang/String;)V"⟩),
  ("java/lang/IllegalStateException", 7, ⟨"java/lang/RuntimeException", "<init>", "(Ljava/lang/String;)V"⟩),
  ("ShadowWard", 86, ⟨"ShadowWard$Frames", "pop", "()V"⟩),
  ("ShadowWard$Frames", 87, ⟨"java/util/ArrayList", "remove", "(I)Ljava/lang/Object;"⟩),
  ("java/util/ArrayList", 144, ⟨"java/util/ArrayList", "fastRemove", "([Ljava/lang/Object;I)V"⟩),
  ("java/util/ArrayList", 112, ⟨"java/lang/System", "arraycopy", "(Ljava/lang/Object;ILjava/lang/Object;II)V"⟩),
  ("ShadowWardLaw", 115, ⟨"ShadowWardLaw", "scope", "(LShadowWard;IIZ[J)I"⟩),
  ("ShadowWardLaw", 25, ⟨"ShadowWard", "scope", "(IIZ)Z"⟩),
  ("ShadowWard", 89, ⟨"ShadowWard", "variableOf", "(II)LShadowWard$Variable;"⟩),
  ("ShadowWard", 189, ⟨"ShadowWard", "demandIndex", "(II)V"⟩),
  ("ShadowWard", 249, ⟨"java/lang/IndexOutOfBoundsException", "<init>", "(Ljava/lang/String;)V"⟩),
  ("java/lang/IndexOutOfBoundsException", 7, ⟨"java/lang/RuntimeException", "<init>", "(Ljava/lang/String;)V"⟩),
  ("ShadowWard", 193, ⟨"java/util/ArrayList", "get", "(I)Ljava/lang/Object;"⟩),
  ("ShadowWard", 93, ⟨"ShadowWard$Frames", "setScope", "(LShadowWard$Variable;Z)Z"⟩),
  ("ShadowWardLaw", 119, ⟨"ShadowWardLaw", "variable", "(LShadowWard;II[J)I"⟩),
  ("ShadowWardLaw", 31, ⟨"ShadowWard", "variable", "(II)I"⟩),
  ("ShadowWardLaw", 123, ⟨"ShadowWardLaw", "allocate", "(LShadowWard;III[J)I"⟩),
  ("ShadowWardLaw", 35, ⟨"ShadowWard", "allocate", "(III)I"⟩),
  ("ShadowWard", 103, ⟨"ShadowWard", "isBlockKind", "(I)Z"⟩),
  ("ShadowWard", 109, ⟨"ShadowWard$Heap", "give", "(III)LShadowWard$Block;"⟩),
  ("ShadowWard$Heap", 55, ⟨"ShadowWard$Block", "chunkBytesFor", "(I)I"⟩),
  ("ShadowWard$Block", 3, ⟨"ShadowWard$Block", "redzone", "(I)I"⟩),
  ("ShadowWard$Heap", 59, ⟨"ShadowWard$Heap", "unitWithRoom", "(I)I"⟩),
  ("ShadowWard$Heap", 93, ⟨"ShadowWard$Heap", "firstFreeRun", "(I)I"⟩),
  ("ShadowWard$Heap", 96, ⟨"ShadowWard$Heap", "releaseOldest", "()V"⟩),
  ("ShadowWard$Heap", 115, ⟨"java/util/ArrayList", "isEmpty", "()Z"⟩),
  ("ShadowWard$Heap", 119, ⟨"java/util/ArrayList", "remove", "(I)Ljava/lang/Object;"⟩),
  ("ShadowWard$Heap", 86, ⟨"ShadowWard$Memory", "paint", "(III)V"⟩),
  ("ShadowWard$Heap", 69, ⟨"ShadowWard$Heap", "setOwner", "(LShadowWard$Block;LShadowWard$Block;)V"⟩),
  ("ShadowWard$Heap", 99, ⟨"java/lang/Math", "max", "(II)I"⟩),
  ("ShadowWard$Heap", 105, ⟨"java/lang/Math", "min", "(II)I"⟩),
  ("ShadowWard$Heap", 62, ⟨"ShadowWard$Block", "<init>", "(IIIII)V"⟩),
  ("ShadowWard$Block", 9, ⟨"ShadowWard$Region", "<init>", "(IIIII)V"⟩),
  ("ShadowWard$Block", 25, ⟨"ShadowWard$Block", "chunkBytesFor", "(I)I"⟩),
  ("ShadowWard$Heap", 65, ⟨"java/util/ArrayList", "add", "(Ljava/lang/Object;)Z"⟩),
  ("ShadowWard$Heap", 79, ⟨"ShadowWard$Memory", "setBytes", "(III)V"⟩),
  ("ShadowWard$Heap", 89, ⟨"ShadowWard$Memory", "open", "(II)V"⟩),
  ("ShadowWardLaw", 127, ⟨"ShadowWardLaw", "free", "(LShadowWard;III[J)I"⟩),
  ("ShadowWardLaw", 39, ⟨"ShadowWard", "free", "(III)Z"⟩),
  ("ShadowWard", 116, ⟨"ShadowWard", "blockToFree", "(II)LShadowWard$Block;"⟩),
  ("ShadowWard", 257, ⟨"ShadowWard$Heap", "blockAt", "(I)LShadowWard$Block;"⟩),
  ("ShadowWard", 120, ⟨"ShadowWard$Heap", "takeBack", "(LShadowWard$Block;I)V"⟩),
  ("ShadowWardLaw", 130, ⟨"ShadowWardLaw", "resize", "(LShadowWard;III[J)I"⟩),
  ("ShadowWardLaw", 43, ⟨"ShadowWard", "resize", "(III)I"⟩),
  ("ShadowWard", 124, ⟨"ShadowWard", "allocate", "(III)I"⟩),
  ("ShadowWard", 131, ⟨"java/lang/Math", "min", "(II)I"⟩),
  ("ShadowWardLaw", 133, ⟨"ShadowWardLaw", "load", "(LShadowWard;II[J)I"⟩),
  ("ShadowWardLaw", 46, ⟨"ShadowWard", "load", "(II)J"⟩),
  ("ShadowWard", 145, ⟨"ShadowWard$Memory", "number", "(II)J"⟩),
  ("ShadowWardLaw", 138, ⟨"ShadowWardLaw", "store", "(LShadowWard;IIJ[J)I"⟩),
  ("ShadowWardLaw", 50, ⟨"ShadowWard", "store", "(IIJ)Z"⟩),
  ("ShadowWard", 149, ⟨"ShadowWard$Memory", "setNumber", "(IIJ)V"⟩),
  ("ShadowWardLaw", 142, ⟨"ShadowWardLaw", "fill", "(LShadowWard;III[J)I"⟩),
  ("ShadowWardLaw", 54, ⟨"ShadowWard", "fill", "(III)Z"⟩),
  ("ShadowWard", 153, ⟨"ShadowWard$Memory", "setBytes", "(III)V"⟩),
  ("ShadowWardLaw", 145, ⟨"ShadowWardLaw", "copy", "(LShadowWard;IIIZ[J)I"⟩),
  ("ShadowWardLaw", 57, ⟨"ShadowWard", "copy", "(IIIZ)Z"⟩),
  ("ShadowWardLaw", 157, ⟨"ShadowWardLaw", "compare", "(LShadowWard;III[J)I"⟩),
  ("ShadowWardLaw", 61, ⟨"ShadowWard", "compare", "(III)I"⟩),
  ("ShadowWardLaw", 160, ⟨"ShadowWardLaw", "lock", "(LShadowWard;II[J)I"⟩),
  ("ShadowWardLaw", 64, ⟨"ShadowWard", "lock", "(II)I"⟩),
  ("ShadowWard", 180, ⟨"ShadowWard$Memory", "holds", "(II)Z"⟩),
  ("ShadowWard", 184, ⟨"ShadowWard$Memory", "exchangeWhole", "(IIII)I"⟩),
  ("ShadowWardLaw", 163, ⟨"ShadowWardLaw", "unlock", "(LShadowWard;II[J)I"⟩),
  ("ShadowWardLaw", 67, ⟨"ShadowWard", "unlock", "(II)I"⟩),
  ("ShadowWardLaw", 166, ⟨"ShadowWardLaw", "report", "(LShadowWard;II[J)I"⟩),
  ("ShadowWardLaw", 70, ⟨"ShadowWard", "report", "(II)I"⟩),
  ("ShadowWard", 199, ⟨"ShadowWard$Report", "answer", "(I)I"⟩),
  ("ShadowWardLaw", 169, ⟨"ShadowWardLaw", "block", "(LShadowWard;II[J)I"⟩),
  ("ShadowWardLaw", 73, ⟨"ShadowWard", "block", "(II)I"⟩),
  ("ShadowWard", 205, ⟨"ShadowWard$Block", "answer", "(I)I"⟩),
  ("ShadowWardLaw", 172, ⟨"ShadowWardLaw", "shadow", "(LShadowWard;I[J)I"⟩),
  ("ShadowWardLaw", 76, ⟨"ShadowWard", "shadow", "(I)I"⟩),
  ("ShadowWard", 206, ⟨"ShadowWard$Memory", "granules", "()I"⟩),
  ("ShadowWard", 209, ⟨"ShadowWard$Memory", "shadowOf", "(I)I"⟩),
  ("ShadowWardLaw", 175, ⟨"ShadowWardLaw", "peek", "(LShadowWard;I[J)I"⟩),
  ("ShadowWardLaw", 79, ⟨"ShadowWard", "peek", "(I)I"⟩),
  ("ShadowWardLaw", 178, ⟨"ShadowWardLaw", "held", "(LShadowWard;I[J)I"⟩),
  ("ShadowWardLaw", 82, ⟨"ShadowWard", "held", "(I)I"⟩),
  ("ShadowWardLaw", 186, ⟨"ShadowWardLaw", "told", "(LShadowWard;I[J)I"⟩),
  ("ShadowWardLaw", 85, ⟨"ShadowWard", "told", "(I)I"⟩),
  ("ShadowWard", 236, ⟨"ShadowWard$Memory", "goodAddresses", "()I"⟩),
  ("ShadowWard", 239, ⟨"ShadowWard$LostSearch", "count", "()I"⟩),
  ("ShadowWardLaw", 99, ⟨"ShadowWardModel", "<init>", "(II)V"⟩),
  ("ShadowWardModel", 1, ⟨"java/lang/Object", "<init>", "()V"⟩),
  ("ShadowWardLaw", 104, ⟨"ShadowWardModel", "thrown", "()I"⟩),
  ("ShadowWardLaw", 103, ⟨"ShadowWardModel", "global", "(I)I"⟩),
  ("ShadowWardModel", 88, ⟨"ShadowWardModel", "refuses", "(I)Z"⟩),
  ("ShadowWardModel", 95, ⟨"ShadowWardModel", "opens", "(II)V"⟩),
  ("ShadowWardLaw", 110, ⟨"ShadowWardModel", "enter", "(IIII)I"⟩),
  ("ShadowWardModel", 99, ⟨"ShadowWardModel", "isSize", "(I)Z"⟩),
  ("ShadowWardModel", 105, ⟨"ShadowWardModel", "padded", "(I)I"⟩),
  ("ShadowWardModel", 109, ⟨"ShadowWardModel", "paint", "(III)V"⟩),
  ("ShadowWardLaw", 114, ⟨"ShadowWardModel", "leave", "()I"⟩),
  ("ShadowWardLaw", 118, ⟨"ShadowWardModel", "scope", "(IIZ)Z"⟩),
  ("ShadowWardModel", 113, ⟨"ShadowWardModel", "noVariable", "(II)Z"⟩),
  ("ShadowWardLaw", 122, ⟨"ShadowWardModel", "variable", "(II)I"⟩),
  ("ShadowWardLaw", 126, ⟨"ShadowWardModel", "allocate", "(III)I"⟩),
  ("ShadowWardModel", 135, ⟨"ShadowWardModel", "given", "(III)I"⟩),
  ("ShadowWardModel", 126, ⟨"ShadowWardModel", "redzone", "(I)I"⟩),
  ("ShadowWardModel", 129, ⟨"ShadowWardModel", "placeFor", "(I)I"⟩),
  ("ShadowWardModel", 120, ⟨"ShadowWardModel", "isFree", "(II)Z"⟩),
  ("ShadowWardModel", 132, ⟨"ShadowWardModel", "oldestLeaves", "()V"⟩),
  ("ShadowWardLaw", 129, ⟨"ShadowWardModel", "free", "(III)Z"⟩),
  ("ShadowWardModel", 151, ⟨"ShadowWardModel", "mayGo", "(II)I"⟩),
  ("ShadowWardModel", 143, ⟨"ShadowWardModel", "blockIn", "(II)I"⟩),
  ("ShadowWardModel", 147, ⟨"ShadowWardModel", "tells", "(IJIZ)V"⟩),
  ("ShadowWardModel", 160, ⟨"ShadowWardModel", "nearer", "(IJIIII)V"⟩),
  ("ShadowWardModel", 164, ⟨"ShadowWardModel", "far", "(JII)J"⟩),
  ("ShadowWardModel", 168, ⟨"ShadowWardModel", "regionAt", "(II)I"⟩),
  ("ShadowWardModel", 154, ⟨"ShadowWardModel", "goes", "(II)V"⟩),
  ("ShadowWardModel", 139, ⟨"ShadowWardModel", "heldBytes", "()I"⟩),
  ("ShadowWardLaw", 132, ⟨"ShadowWardModel", "resize", "(III)I"⟩),
  ("ShadowWardLaw", 135, ⟨"ShadowWardModel", "load", "(II)J"⟩),
  ("ShadowWardModel", 177, ⟨"ShadowWardModel", "right", "(JIIIZ)Z"⟩),
  ("ShadowWardModel", 173, ⟨"ShadowWardModel", "wrong", "(J)I"⟩),
  ("ShadowWardLaw", 141, ⟨"ShadowWardModel", "store", "(IIJ)Z"⟩),
  ("ShadowWardLaw", 144, ⟨"ShadowWardModel", "fill", "(III)Z"⟩),
  ("ShadowWardModel", 181, ⟨"ShadowWardModel", "noAmount", "(I)Z"⟩),
  ("ShadowWardLaw", 148, ⟨"ShadowWardModel", "copy", "(IIIZ)Z"⟩),
  ("ShadowWardModel", 184, ⟨"ShadowWardModel", "copies", "(IIIZ)Z"⟩),
  ("ShadowWardLaw", 152, ⟨"ShadowWardModel", "length", "(I)I"⟩),
  ("ShadowWardModel", 188, ⟨"ShadowWardModel", "lengthOf", "(I)I"⟩),
  ("ShadowWardLaw", 156, ⟨"ShadowWardModel", "text", "(II)I"⟩),
  ("ShadowWardLaw", 159, ⟨"ShadowWardModel", "compare", "(III)I"⟩),
  ("ShadowWardLaw", 162, ⟨"ShadowWardModel", "lock", "(II)I"⟩),
  ("ShadowWardModel", 191, ⟨"ShadowWardModel", "change", "(IIII)I"⟩),
  ("ShadowWardLaw", 165, ⟨"ShadowWardModel", "unlock", "(II)I"⟩),
  ("ShadowWardLaw", 168, ⟨"ShadowWardModel", "report", "(II)I"⟩),
  ("ShadowWardLaw", 171, ⟨"ShadowWardModel", "block", "(II)I"⟩),
  ("ShadowWardLaw", 174, ⟨"ShadowWardModel", "shadow", "(I)I"⟩),
  ("ShadowWardLaw", 177, ⟨"ShadowWardModel", "peek", "(I)I"⟩),
  ("ShadowWardLaw", 180, ⟨"ShadowWardModel", "held", "(I)I"⟩),
  ("ShadowWardLaw", 185, ⟨"ShadowWardModel", "lost", "(IZ)I"⟩),
  ("ShadowWardModel", 211, ⟨"ShadowWardModel", "walk", "()V"⟩),
  ("ShadowWardModel", 205, ⟨"ShadowWardModel", "isRooted", "(I)Z"⟩),
  ("ShadowWardModel", 201, ⟨"ShadowWardModel", "leads", "(III)Z"⟩),
  ("ShadowWardModel", 197, ⟨"ShadowWardModel", "word", "(I)J"⟩),
  ("ShadowWardModel", 208, ⟨"ShadowWardModel", "isLost", "(I)Z"⟩),
  ("ShadowWardModel", 214, ⟨"ShadowWardModel", "isAlone", "(I)Z"⟩),
  ("ShadowWardLaw", 188, ⟨"ShadowWardModel", "told", "(I)I"⟩),
  ("ShadowWardModel", 217, ⟨"ShadowWardModel", "good", "()I"⟩)]
def zMN : List (String × Nat × MethodName × String) := [("ShadowWard$Memory", 32, ⟨"ShadowWard", "roundUp", "(II)I"⟩, "ShadowWard"),
  ("ShadowWard$Globals", 59, ⟨"ShadowWard", "nearer", "(LShadowWard$Region;LShadowWard$Region;I)LShadowWard$Region;"⟩, "ShadowWard"),
  ("ShadowWard$Frames", 99, ⟨"ShadowWard", "nearer", "(LShadowWard$Region;LShadowWard$Region;I)LShadowWard$Region;"⟩, "ShadowWard"),
  ("ShadowWard$Heap", 134, ⟨"ShadowWard", "nearer", "(LShadowWard$Region;LShadowWard$Region;I)LShadowWard$Region;"⟩, "ShadowWard"),
  ("ShadowWard$Globals", 55, ⟨"ShadowWard", "roundUp", "(II)I"⟩, "ShadowWard"),
  ("ShadowWard$Frames", 26, ⟨"ShadowWard", "roundUp", "(II)I"⟩, "ShadowWard"),
  ("ShadowWard$Block", 31, ⟨"ShadowWard", "roundUp", "(II)I"⟩, "ShadowWard")]
def zKL : List (String × Nat × String) := [("ShadowWardLaw", 8, "ShadowWard"),
  ("ShadowWard", 7, "ShadowWard$Memory"),
  ("ShadowWard", 18, "ShadowWard$Globals"),
  ("ShadowWard$Globals", 9, "java/util/ArrayList"),
  ("ShadowWard", 27, "ShadowWard$Frames"),
  ("ShadowWard$Frames", 9, "java/util/ArrayList"),
  ("ShadowWard", 34, "ShadowWard$Heap"),
  ("ShadowWard$Heap", 9, "java/util/ArrayList"),
  ("ShadowWard$Heap", 46, "ShadowWard$Block"),
  ("ShadowWard", 43, "ShadowWard$LostSearch"),
  ("ShadowWard$LostSearch", 9, "java/util/ArrayList"),
  ("ShadowWard", 52, "java/util/ArrayList"),
  ("ShadowWard$Globals", 32, "ShadowWard$Region"),
  ("ShadowWard$Frames", 47, "ShadowWard$Frame"),
  ("ShadowWard$Frames", 97, "ShadowWard$Region"),
  ("ShadowWard", 197, "ShadowWard$Report"),
  ("java/util/Arrays", 110, "[Ljava/lang/Object;"),
  ("java/util/Arrays", 2, "java/lang/Object"),
  ("java/util/ArrayList", 7, "java/lang/Object"),
  ("ShadowWard", 240, "java/lang/IllegalArgumentException"),
  ("ShadowWard$LostSearch", 59, "ShadowWard$Block"),
  ("ShadowWard$LostSearch", 83, "ShadowWard$Region"),
  ("ShadowWard$LostSearch", 96, "ShadowWard$Frame"),
  ("ShadowWard$LostSearch", 101, "ShadowWard$Variable"),
  ("ShadowWardLaw", 13, "java/lang/IllegalArgumentException"),
  ("ShadowWard$Frame", 7, "java/util/ArrayList"),
  ("ShadowWard$Frames", 73, "ShadowWard$Variable"),
  ("ShadowWardLaw", 23, "java/lang/IllegalStateException"),
  ("ShadowWard", 79, "java/lang/IllegalStateException"),
  ("ShadowWardLaw", 29, "java/lang/IndexOutOfBoundsException"),
  ("ShadowWard", 245, "java/lang/IndexOutOfBoundsException"),
  ("ShadowWard", 252, "ShadowWard$Frame"),
  ("ShadowWard", 98, "ShadowWard$Variable"),
  ("ShadowWard", 114, "ShadowWard$Block"),
  ("ShadowWardLaw", 97, "ShadowWardModel")]
def zSF : List (String × String × String × String) := [("java/util/ArrayList", "java/util/AbstractList", "modCount", "I"),
  ("ShadowWard$Block", "ShadowWard$Region", "number", "I"),
  ("ShadowWard$Block", "ShadowWard$Region", "address", "I"),
  ("ShadowWard$Variable", "ShadowWard$Region", "address", "I"),
  ("ShadowWard$Block", "ShadowWard$Region", "size", "I"),
  ("ShadowWard$Variable", "ShadowWard$Region", "size", "I"),
  ("ShadowWard$Block", "ShadowWard$Region", "end", "I"),
  ("ShadowWard$Block", "ShadowWard$Region", "siteGiven", "I"),
  ("ShadowWard$Block", "ShadowWard$Region", "siteFreed", "I")]
def zisF : Jvm.Cond → Bool
  | .fieldLink _ _ _ _ _ => true
  | _ => false
def zisM : Jvm.Cond → Bool
  | .methodLink _ _ _ => true
  | _ => false
def zisN : Jvm.Cond → Bool
  | .methodLinkNest _ _ _ _ => true
  | _ => false
def zisK : Jvm.Cond → Bool
  | .classLink _ _ _ => true
  | _ => false
def zisS : Jvm.Cond → Bool
  | .sameField _ _ _ _ => true
  | _ => false
theorem zFR_eq : zFR.map (fun q => Jvm.Cond.fieldLink q.1 q.2.1 q.2.2.1 q.2.2.2.1 q.2.2.2.2) = tables_1.filter zisF := by decide +kernel
theorem zML_eq : zML.map (fun q => Jvm.Cond.methodLink q.1 q.2.1 q.2.2) = tables_1.filter zisM := by decide +kernel
theorem zMN_eq : zMN.map (fun q => Jvm.Cond.methodLinkNest q.1 q.2.1 q.2.2.1 q.2.2.2) = tables_1.filter zisN := by decide +kernel
theorem zKL_eq : zKL.map (fun q => Jvm.Cond.classLink q.1 q.2.1 q.2.2) = tables_1.filter zisK := by decide +kernel
theorem zSF_eq : zSF.map (fun q => Jvm.Cond.sameField q.1 q.2.1 q.2.2.1 q.2.2.2) = tables_1.filter zisS := by decide +kernel
theorem zmf {w : Jvm.Cond} {l : List Jvm.Cond} {p : Jvm.Cond → Bool} (h : w ∈ l.filter p) : w ∈ l := (List.mem_filter.mp h).1
theorem zpl {w : Jvm.Cond} {l ws : List Jvm.Cond} (ps : List Nat) (e : ws = ps.filterMap (fun i => l[i]?)) (h : w ∈ ws) : w ∈ l := by
  rw [e] at h
  obtain ⟨i, -, hi⟩ := List.mem_filterMap.mp h
  exact List.mem_of_getElem? hi
theorem z_in {w : Jvm.Cond} (h : w ∈ tables_1) : w ∈ lw_tbl := List.mem_append_right _ h
theorem zFR_in {t : Nat} {q : String × Nat × String × String × String} (h : zFR[t]? = some q) : Jvm.Cond.fieldLink q.1 q.2.1 q.2.2.1 q.2.2.2.1 q.2.2.2.2 ∈ lw_tbl := z_in (zmf (by rw [← zFR_eq]; exact List.mem_map.mpr ⟨q, List.mem_of_getElem? h, rfl⟩))
theorem zML_in {t : Nat} {q : String × Nat × MethodName} (h : zML[t]? = some q) : Jvm.Cond.methodLink q.1 q.2.1 q.2.2 ∈ lw_tbl := z_in (zmf (by rw [← zML_eq]; exact List.mem_map.mpr ⟨q, List.mem_of_getElem? h, rfl⟩))
theorem zMN_in {t : Nat} {q : String × Nat × MethodName × String} (h : zMN[t]? = some q) : Jvm.Cond.methodLinkNest q.1 q.2.1 q.2.2.1 q.2.2.2 ∈ lw_tbl := z_in (zmf (by rw [← zMN_eq]; exact List.mem_map.mpr ⟨q, List.mem_of_getElem? h, rfl⟩))
theorem zKL_in {t : Nat} {q : String × Nat × String} (h : zKL[t]? = some q) : Jvm.Cond.classLink q.1 q.2.1 q.2.2 ∈ lw_tbl := z_in (zmf (by rw [← zKL_eq]; exact List.mem_map.mpr ⟨q, List.mem_of_getElem? h, rfl⟩))
theorem zSF_in {q : String × String × String × String} (h : q ∈ zSF) : Jvm.Cond.sameField q.1 q.2.1 q.2.2.1 q.2.2.2 ∈ lw_tbl := z_in (zmf (by rw [← zSF_eq]; exact List.mem_map.mpr ⟨q, h, rfl⟩))
/-! the classes of the objects, by number: name, fields, how many, types -/
def zcl : Nat → String × u_T × Nat × (Nat → FieldType) := fun c => match c with
  | 0 => (RJx4a65c, TJx4a65c, 3, tyJx4a65c)
  | 1 => (RX0, TX0, 13, tyX0)
  | 2 => (RX1, TX1, 3, tyX1)
  | 3 => (RX2, TX2, 2, tyX2)
  | 4 => (RX3, TX3, 2, tyX3)
  | 5 => (RX4, TX4, 8, tyX4)
  | 6 => (RX5, TX5, 5, tyX5)
  | 7 => (RX6, TX6, 5, tyX6)
  | 8 => (RX7, TX7, 7, tyX7)
  | 9 => (RX8, TX8, 10, tyX8)
  | 10 => (RX9, TX9, 8, tyX9)
  | 11 => (RX10, TX10, 6, tyX10)
  | _ => (RX11, TX11, 30, tyX11)
def zclok (c : Nat) : Prop := vwCl[c]? = some ((zcl c).1, (zcl c).2.1, (zcl c).2.2.1) ∧ (∀ w ∈ u_ws (zcl c).1 (zcl c).2.1 (zcl c).2.2.1, w ∈ lw_tbl) ∧ (∀ k, k < (zcl c).2.2.1 → parseFieldDescriptor ((zcl c).2.1 k).2.2.1 = some ((zcl c).2.2.2 k)) ∧ ∀ a, a < (zcl c).2.2.1 → ∀ b, b < (zcl c).2.2.1 → a ≠ b → ((zcl c).2.1 a).2.1 ≠ ((zcl c).2.1 b).2.1
theorem zcl_0 : zclok 0 := ⟨rfl, fun w h => z_in (zpl [110, 106, 108] (show u_ws RJx4a65c TJx4a65c 3 = _ by decide +kernel) h), tyJx4a65c_ok, nmJx4a65c⟩
theorem zcl_1 : zclok 1 := ⟨rfl, fun w h => z_in (zpl [899, 900, 901, 902, 903, 904, 905, 887, 889, 891, 893, 895, 897] (show u_ws RX0 TX0 13 = _ by decide +kernel) h), tyX0_ok, nmX0⟩
theorem zcl_2 : zclok 2 := ⟨rfl, fun w h => z_in (zpl [704, 706, 708] (show u_ws RX1 TX1 3 = _ by decide +kernel) h), tyX1_ok, nmX1⟩
theorem zcl_3 : zclok 3 := ⟨rfl, fun w h => z_in (zpl [134, 136] (show u_ws RX2 TX2 2 = _ by decide +kernel) h), tyX2_ok, nmX2⟩
theorem zcl_4 : zclok 4 := ⟨rfl, fun w h => z_in (zpl [117, 119] (show u_ws RX3 TX3 2 = _ by decide +kernel) h), tyX3_ok, nmX3⟩
theorem zcl_5 : zclok 5 := ⟨rfl, fun w h => z_in (zpl [165, 167, 169, 171, 173, 175, 177, 179] (show u_ws RX4 TX4 8 = _ by decide +kernel) h), tyX4_ok, nmX4⟩
theorem zcl_6 : zclok 6 := ⟨rfl, fun w h => z_in (zpl [195, 197, 199, 201, 203] (show u_ws RX5 TX5 5 = _ by decide +kernel) h), tyX5_ok, nmX5⟩
theorem zcl_7 : zclok 7 := ⟨rfl, fun w h => z_in (zpl [69, 71, 73, 75, 77] (show u_ws RX6 TX6 5 = _ by decide +kernel) h), tyX6_ok, nmX6⟩
theorem zcl_8 : zclok 8 := ⟨rfl, fun w h => z_in (zpl [651, 653, 655, 657, 659, 661, 663] (show u_ws RX7 TX7 7 = _ by decide +kernel) h), tyX7_ok, nmX7⟩
theorem zcl_9 : zclok 9 := ⟨rfl, fun w h => z_in (zpl [345, 347, 349, 351, 353, 355, 357, 359, 361, 363] (show u_ws RX8 TX8 10 = _ by decide +kernel) h), tyX8_ok, nmX8⟩
theorem zcl_10 : zclok 10 := ⟨rfl, fun w h => z_in (zpl [726, 727, 728, 729, 730, 731, 732, 724] (show u_ws RX9 TX9 8 = _ by decide +kernel) h), tyX9_ok, nmX9⟩
theorem zcl_11 : zclok 11 := ⟨rfl, fun w h => z_in (zpl [214, 216, 218, 220, 222, 224] (show u_ws RX10 TX10 6 = _ by decide +kernel) h), tyX10_ok, nmX10⟩
theorem zcl_12 : zclok 12 := ⟨rfl, fun w h => z_in (zpl [1098, 1100, 1102, 1104, 1106, 1108, 1110, 1112, 1114, 1116, 1118, 1120, 1122, 1124, 1126, 1128, 1130, 1132, 1134, 1136, 1138, 1140, 1142, 1144, 1146, 1148, 1150, 1152, 1154, 1156] (show u_ws RX11 TX11 30 = _ by decide +kernel) h), tyX11_ok, nmX11⟩
theorem zcl_ok : ∀ c, c < 13 → zclok c := by
  intro c hc
  match c, hc with
  | 0, _ => exact zcl_0
  | 1, _ => exact zcl_1
  | 2, _ => exact zcl_2
  | 3, _ => exact zcl_3
  | 4, _ => exact zcl_4
  | 5, _ => exact zcl_5
  | 6, _ => exact zcl_6
  | 7, _ => exact zcl_7
  | 8, _ => exact zcl_8
  | 9, _ => exact zcl_9
  | 10, _ => exact zcl_10
  | 11, _ => exact zcl_11
  | 12, _ => exact zcl_12
  | c + 13, hc => omega
/-- field numbers: in an object of class c, of the field link t -/
def zFK : List (List (Nat × Nat)) := [[(14, 1), (15, 2), (16, 0), (17, 0)],
  [(71, 0), (72, 0), (73, 1), (74, 1), (75, 1), (76, 2), (77, 2), (78, 2), (79, 2), (80, 2), (81, 2), (82, 2), (83, 2), (84, 2), (85, 3), (86, 3), (87, 3), (88, 3), (89, 3), (90, 4), (91, 4), (92, 4), (93, 4), (94, 5), (95, 5), (96, 5), (97, 6), (98, 6), (99, 6), (111, 7), (112, 7), (113, 8), (114, 8), (115, 9), (116, 9), (117, 10), (118, 10), (119, 10), (120, 11), (121, 11), (122, 12)],
  [(100, 0), (101, 0), (102, 1), (103, 1), (104, 2), (105, 2), (106, 2), (107, 2)],
  [(22, 0), (23, 1), (24, 1), (25, 1)],
  [(18, 0), (19, 1), (20, 1), (21, 1)],
  [(26, 0), (27, 1), (28, 1), (29, 2), (30, 2), (31, 2), (32, 3), (33, 3), (34, 4), (35, 5), (36, 5), (37, 5), (38, 6), (39, 6), (40, 7), (41, 7)],
  [(42, 0), (43, 1), (44, 2), (45, 3), (46, 4)],
  [(0, 0), (1, 0), (2, 0), (3, 1), (4, 1), (5, 1), (6, 1), (7, 2), (8, 2), (9, 2), (10, 2), (11, 3), (12, 4)],
  [(71, 0), (72, 0), (73, 1), (74, 1), (75, 1), (76, 2), (77, 2), (78, 2), (79, 2), (80, 2), (81, 2), (82, 2), (83, 2), (84, 2), (85, 3), (86, 3), (87, 3), (88, 3), (89, 3), (90, 4), (91, 4), (92, 4), (93, 4), (94, 5), (95, 5), (96, 5), (97, 6), (98, 6), (99, 6)],
  [(53, 0), (54, 1), (55, 2), (56, 3), (57, 4), (58, 5), (59, 6), (60, 7), (61, 8), (62, 9)],
  [(71, 0), (72, 0), (73, 1), (74, 1), (75, 1), (76, 2), (77, 2), (78, 2), (79, 2), (80, 2), (81, 2), (82, 2), (83, 2), (84, 2), (85, 3), (86, 3), (87, 3), (88, 3), (89, 3), (90, 4), (91, 4), (92, 4), (93, 4), (94, 5), (95, 5), (96, 5), (97, 6), (98, 6), (99, 6), (108, 7), (109, 7), (110, 7)],
  [(47, 0), (48, 1), (49, 2), (50, 3), (51, 4), (52, 5)],
  [(123, 0), (124, 1), (125, 2), (126, 3), (127, 4), (128, 5), (129, 6), (130, 7), (131, 8), (132, 9), (133, 10), (134, 11), (135, 12), (136, 13), (137, 14), (138, 15), (139, 16), (140, 17), (141, 18), (142, 19), (143, 20), (144, 21), (145, 22), (146, 23), (147, 24), (148, 25), (149, 26), (150, 27), (151, 28), (152, 29)]]
def zfkE : List (Nat × Nat) → Nat → Option Nat
  | [], _ => none
  | q :: r, t => match Nat.beq q.1 t with
    | true => some q.2
    | false => zfkE r t
def zfkR : List (List (Nat × Nat)) → Nat → Nat → Option Nat
  | [], _, _ => none
  | l :: _, 0, t => zfkE l t
  | _ :: r, c + 1, t => zfkR r c t
def zfk (c t : Nat) : Option Nat := zfkR zFK c t
def zfkchk (c t k : Nat) : Bool := match zFR[t]? with
  | some q => decide (c < 13) && decide (k < (zcl c).2.2.1) && decide (((zcl c).2.1 k).2.1 = q.2.2.2.1) && decide (((zcl c).2.1 k).2.2.1 = q.2.2.2.2) && (decide (((zcl c).2.1 k).1 = q.2.2.1) || decide ((q.2.2.1, ((zcl c).2.1 k).1, q.2.2.2.1, q.2.2.2.2) ∈ zSF))
  | none => false
def zfkall : Nat → List (List (Nat × Nat)) → Bool
  | _, [] => true
  | c, l :: r => l.all (fun q => zfkchk c q.1 q.2) && zfkall (c + 1) r
theorem zfk_all : zfkall 0 zFK = true := by decide +kernel
theorem zfkE_in {l : List (Nat × Nat)} {t k : Nat} (h : zfkE l t = some k) : (t, k) ∈ l := by
  induction l with
  | nil => cases h
  | cons a r ih =>
    simp only [zfkE] at h
    split at h
    · rename_i c
      cases h
      rw [← Nat.eq_of_beq_eq_true c]
      exact List.mem_cons_self
    · exact List.mem_cons_of_mem _ (ih h)
theorem zfkR_in {l : List (List (Nat × Nat))} {b c t k : Nat} (ha : zfkall b l = true) (h : zfkR l c t = some k) : zfkchk (b + c) t k = true := by
  induction l generalizing b c with
  | nil => cases h
  | cons a r ih =>
    simp only [zfkall, Bool.and_eq_true] at ha
    cases c with
    | zero => exact List.all_eq_true.mp ha.1 _ (zfkE_in h)
    | succ c =>
      have := ih ha.2 h
      rwa [show b + 1 + c = b + (c + 1) by omega] at this
theorem zfk_ok {c t k : Nat} (h : zfk c t = some k) {q : String × Nat × String × String × String} (hq : zFR[t]? = some q) : zclok c ∧ k < (zcl c).2.2.1 ∧ ((zcl c).2.1 k).2.1 = q.2.2.2.1 ∧ ((zcl c).2.1 k).2.2.1 = q.2.2.2.2 ∧ (((zcl c).2.1 k).1 = q.2.2.1 ∨ (q.2.2.1, ((zcl c).2.1 k).1, q.2.2.2.1, q.2.2.2.2) ∈ zSF) := by
  have := zfkR_in zfk_all h
  simp only [zfkchk, Nat.zero_add, hq, Bool.and_eq_true, Bool.or_eq_true, decide_eq_true_eq] at this
  obtain ⟨⟨⟨⟨h1, h2⟩, h3⟩, h4⟩, h5⟩ := this
  exact ⟨zcl_ok c h1, h2, h3, h4, h5⟩
/-! castable pairs; which classes can be made -/
def zCT : List (String × String) := [("java/lang/IllegalArgumentException", "java/lang/IllegalArgumentException"), ("java/lang/IllegalStateException", "java/lang/IllegalStateException"), ("java/lang/IndexOutOfBoundsException", "java/lang/IndexOutOfBoundsException"), ("ShadowWard$Block", "ShadowWard$Region"), ("ShadowWard$Region", "ShadowWard$Region"), ("ShadowWard$Variable", "ShadowWard$Region"), ("ShadowWard$Frame", "ShadowWard$Frame"), ("ShadowWard$Block", "ShadowWard$Block"), ("ShadowWard$Variable", "ShadowWard$Variable"), ("ShadowWard$Report", "ShadowWard$Report"), ("ShadowWard", "java/lang/Object"), ("ShadowWard$Memory", "java/lang/Object"), ("ShadowWard$Globals", "java/lang/Object"), ("ShadowWard$Frames", "java/lang/Object"), ("ShadowWard$Heap", "java/lang/Object"), ("ShadowWard$LostSearch", "java/lang/Object"), ("ShadowWardModel", "java/lang/Object"), ("ShadowWard$Region", "java/lang/Object"), ("ShadowWard$Frame", "java/lang/Object"), ("ShadowWard$Variable", "java/lang/Object"), ("ShadowWard$Block", "java/lang/Object"), ("ShadowWard$Report", "java/lang/Object"), ("java/lang/String", "java/lang/Object")]
def zisC : Jvm.Cond → Bool
  | .castable _ _ => true
  | _ => false
theorem zCT_eq : zCT.map (fun q => Jvm.Cond.castable q.1 q.2) = tables_1.filter zisC := by decide +kernel
theorem zCT_in {q : String × String} (h : q ∈ zCT) : Jvm.Cond.castable q.1 q.2 ∈ lw_tbl := z_in (zmf (by rw [← zCT_eq]; exact List.mem_map.mpr ⟨q, h, rfl⟩))
def zcast (ci : Nat) (nm : String) : Bool := decide (ci < 13) && decide (((zcl ci).1, nm) ∈ zCT)
theorem zct {X : zCx} (G : zG X) {s : State} (hW : (zs X).WarmedH s.vm) {a b : String} (h : (a, b) ∈ zCT) : ∃ c t, s.vm.findClass a = some c ∧ s.vm.findClass b = some t ∧ s.vm.assignable c t = true := by
  obtain ⟨c, t, h1, h2, h3⟩ := Cond.castable_spec (G.1 _ (zCT_in h))
  exact ⟨c, t, by rw [hW.alike.findClass]; exact h1, by rw [hW.alike.findClass]; exact h2, by rw [hW.alike.assignable]; exact h3⟩
theorem zcast_ok {X : zCx} (G : zG X) {s : State} {args : Array Value} (hW : (zs X).WarmedH s.vm) {ci : Nat} {nm : String} (h : zcast ci nm = true) : ClassAt s (zcl ci).1 ((zD X).1 ci) ∧ ∃ c t, s.vm.findClass (zcl ci).1 = some c ∧ s.vm.findClass nm = some t ∧ s.vm.assignable c t = true := by
  simp only [zcast, Bool.and_eq_true, decide_eq_true_eq] at h
  exact ⟨((zKs G hW).1 ci _ (zcl_ok ci h.1).1).2, zct G hW h.2⟩
theorem zcn : ∀ c, c < 13 → Jvm.Cond.instantiable (zcl c).1 (zcl c).2.2.1 ∈ lw_tbl ∧ Jvm.Cond.initialized (zcl c).1 ∈ lw_tbl := by
  intro c hc
  match c, hc with
  | 0, _ => exact ⟨z_in (List.mem_of_getElem? (i := 88) (by decide +kernel)), z_in (List.mem_of_getElem? (i := 7) (by decide +kernel))⟩
  | 1, _ => exact ⟨z_in (List.mem_of_getElem? (i := 869) (by decide +kernel)), z_in (List.mem_of_getElem? (i := 26) (by decide +kernel))⟩
  | 2, _ => exact ⟨z_in (List.mem_of_getElem? (i := 689) (by decide +kernel)), z_in (List.mem_of_getElem? (i := 22) (by decide +kernel))⟩
  | 3, _ => exact ⟨z_in (List.mem_of_getElem? (i := 123) (by decide +kernel)), z_in (List.mem_of_getElem? (i := 8) (by decide +kernel))⟩
  | 4, _ => exact ⟨z_in (List.mem_of_getElem? (i := 82) (by decide +kernel)), z_in (List.mem_of_getElem? (i := 4) (by decide +kernel))⟩
  | 5, _ => exact ⟨z_in (List.mem_of_getElem? (i := 140) (by decide +kernel)), z_in (List.mem_of_getElem? (i := 9) (by decide +kernel))⟩
  | 6, _ => exact ⟨z_in (List.mem_of_getElem? (i := 183) (by decide +kernel)), z_in (List.mem_of_getElem? (i := 10) (by decide +kernel))⟩
  | 7, _ => exact ⟨z_in (List.mem_of_getElem? (i := 38) (by decide +kernel)), z_in (List.mem_of_getElem? (i := 2) (by decide +kernel))⟩
  | 8, _ => exact ⟨z_in (List.mem_of_getElem? (i := 609) (by decide +kernel)), z_in (List.mem_of_getElem? (i := 18) (by decide +kernel))⟩
  | 9, _ => exact ⟨z_in (List.mem_of_getElem? (i := 322) (by decide +kernel)), z_in (List.mem_of_getElem? (i := 28) (by decide +kernel))⟩
  | 10, _ => exact ⟨z_in (List.mem_of_getElem? (i := 716) (by decide +kernel)), z_in (List.mem_of_getElem? (i := 23) (by decide +kernel))⟩
  | 11, _ => exact ⟨z_in (List.mem_of_getElem? (i := 30) (by decide +kernel)), z_in (List.mem_of_getElem? (i := 1) (by decide +kernel))⟩
  | 12, _ => exact ⟨z_in (List.mem_of_getElem? (i := 1063) (by decide +kernel)), z_in (List.mem_of_getElem? (i := 11) (by decide +kernel))⟩
  | c + 13, hc => omega
