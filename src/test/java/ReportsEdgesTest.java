/** The boundary cases that "2 ACCESSES, REPORTS", "3 WHAT IS LOST" and the sentences on exceptions name: a test
 *  for each sentence, which stands above it. */
public final class ReportsEdgesTest {
    private static final Check check = new Check("ReportsEdgesTest");
    private static final int NONE = ShadowWard.NONE;
    private static final int LEAST = Integer.MIN_VALUE;
    private static final int MOST = Integer.MAX_VALUE;

    public static void main(String[] args) {
        wrongIsNoAddressOrNotGood();
        wrongIsAtTheFirst();
        wrongIsNotDone();
        oneReportForEachCall();
        kindsOfShadows();
        kindOfAGranuleThatIsGoodInPart();
        kindOfNoAddress();
        kindsOfFrees();
        kindOfACopyOntoItself();
        nearestOfNoAddress();
        nearestIsOfItsPart();
        nearestOfFramesThatThereAre();
        nearestOfBlocksThatAreNotGone();
        farCountsFromTheRegionsEdges();
        nearestOfSeveralIsTheLeast();
        wordsBeginAtMultiplesOfFour();
        wordsAreNumbersWithoutASign();
        wordsLieWholeInARegion();
        wordLeadsToTheBytesOfABlock();
        wordLeadsToLiveBlocksOnly();
        rootsAreGlobalsAndVariablesInScope();
        foundBlocksLeadFurther();
        lostAloneIsLedToByNoOther();
        firstExceptionOfSeveral();
        throwingChangesNothing();
        check.finish();
    }

    private static void report(ShadowWard w, String what, int... due) {
        check.report(what, w, w.told(6) - 1, due);
    }

    /** "It is WRONG, if one of them is no address, or not good". */
    private static void wrongIsNoAddressOrNotGood() {
        ShadowWard w = new ShadowWard(1024, 0);
        w.global(8);
        check.yes("all good", w.store(0, 8, -1));
        check.yes("the last one", w.store(7, 1, -1));
        check.no("the last of them is not good", w.store(1, 8, 0));
        check.no("the first is no address", w.store(-1, 8, 0));
        check.no("none is an address", w.store(-8, 8, 0));
        check.no("none is good", w.store(8, 8, 0));
        check.same("nothing was written", w.load(0, 8), -1);
        check.same("reports", w.told(6), 4);
    }

    /** "at the FIRST such one". */
    private static void wrongIsAtTheFirst() {
        ShadowWard w = new ShadowWard(1024, 0);
        w.global(40);
        w.lock(16, 8);
        w.lock(32, 8);
        check.no("the first locked one", w.fill(0, 40, 1));
        report(w, "the first locked one", 8, 16, 40, 1, 1, 0, 0, 0, 0, 0);
        check.no("a locked one before what is about globals", w.fill(24, 60, 1));
        report(w, "a locked one before what is about globals", 8, 32, 60, 1, 1, 0, 0, 0, 0, 0);
        w.unlock(32, 8);
        check.no("about globals before the stack", w.fill(24, 300, 1));
        report(w, "about globals before the stack", 7, 40, 300, 1, 1, 0, 1, 1, 0, 0);
        check.no("the first byte", w.fill(17, 2, 1));
        report(w, "the first byte", 8, 17, 2, 1, 1, 0, 0, 0, 0, 0);
        check.no("no address before what is good", w.fill(-2, 4, 1));
        report(w, "no address before what is good", 9, -2, 4, 1, 0, NONE, 0, 0, 0, 0);
    }

    /** "What is wrong is REPORTED and not done." */
    private static void wrongIsNotDone() {
        ShadowWard w = new ShadowWard(1024, 100);
        w.global(16);
        w.allocate(0, 16, 0);
        String bytes = bytesOf(w);
        check.no("store", w.store(12, 8, -1));
        check.no("fill", w.fill(0, 17, 9));
        check.no("copy to what is not good", w.copy(280, 0, 9, false));
        check.no("copy from what is not good", w.copy(272, 8, 9, false));
        check.no("copy onto itself", w.copy(272, 273, 2, false));
        check.same("text to what is not good", w.text(288, 0), NONE);
        check.same("text onto itself", w.text(0, 0), NONE);
        check.same("text without an end", w.text(0, 272), NONE);
        check.no("free", w.free(1, 272, 5));
        check.same("resize", w.resize(273, 20, 5), NONE);
        check.same("each is reported", w.told(6), 10);
        check.yes("no byte is changed", bytes.equals(bytesOf(w)));
        check.block("nor the block", w, 0, 272, 16, 0, 0, 256, 48, 0, 0);
        check.same("nor is there another one", w.told(4), 1);
    }

    private static String bytesOf(ShadowWard w) {
        StringBuilder all = new StringBuilder();
        for (int a = 0; a < w.told(0); a++) {
            all.append((char) w.peek(a));
        }
        return all.toString();
    }

    /** "Each call makes one REPORT at most: the first that there is." */
    private static void oneReportForEachCall() {
        ShadowWard w = new ShadowWard(1024, 100);
        w.global(16);
        w.fill(0, 16, 1);
        check.no("copy: wrong to read and to write", w.copy(300, 8, 100, false));
        report(w, "copy: wrong to read and to write", 7, 16, 100, 0);
        check.no("copy: wrong in three ways", w.copy(-1, -2, 100, false));
        report(w, "copy: wrong in three ways", 13, -1, 100, 1);
        check.same("compare: both are wrong", w.compare(40, 50, 8), 2);
        report(w, "compare: both are wrong", 7, 40, 1, 0);
        check.same("length: many are wrong", w.length(16), NONE);
        report(w, "length: many are wrong", 7, 16, 1, 0);
        check.same("text: wrong in two ways", w.text(600, 8), NONE);
        report(w, "text: wrong in two ways", 7, 16, 1, 0);
        check.same("resize: no block, and no place", w.resize(600, 1000, 1), NONE);
        report(w, "resize: no block, and no place", 11, 600, 0, 1);
        check.same("load: all eight are wrong", w.load(600, 8), 0);
        check.same("one for each call", w.told(6), 7);
        check.same("none for what is right", w.load(0, 8), 0x0101010101010101L);
        check.same("none", w.told(6), 7);
    }

    private static void kind(ShadowWard w, int address, int shadow, int due) {
        check.same("shadow at " + address, w.shadow(address / 8), shadow);
        check.same("load(" + address + ", 1)", w.load(address, 1), 0);
        report(w, "load(" + address + ", 1)", due, address, 1, 0);
    }

    /** "Its KIND: 1 about a block (the shadow is 250), 2 a freed block (253), 3 left of variables (241), 4 between
     *  or right of them (242, 243), 5 of a frame that was left (245), 6 out of scope (248), 7 about a global
     *  (249), 8 locked (247)". */
    private static void kindsOfShadows() {
        ShadowWard w = new ShadowWard(4096, 100);
        w.global(8);
        w.enter(8, 8, 8, 0);
        w.enter(8, 0, 0, 0);
        w.leave();
        w.allocate(0, 8, 0);
        w.allocate(0, 8, 0);
        w.free(0, 1040, 0);
        w.scope(0, 1, false);
        w.lock(832, 8);
        kind(w, 1024, 250, 1);
        kind(w, 4095, 250, 1);
        kind(w, 1047, 253, 2);
        kind(w, 800, 241, 3);
        kind(w, 831, 241, 3);
        kind(w, 840, 242, 4);
        kind(w, 895, 242, 4);
        kind(w, 968, 243, 4);
        kind(w, 1023, 243, 4);
        kind(w, 704, 245, 5);
        kind(w, 799, 245, 5);
        kind(w, 896, 248, 6);
        kind(w, 903, 248, 6);
        kind(w, 8, 249, 7);
        kind(w, 511, 249, 7);
        kind(w, 832, 247, 8);
        kind(w, 839, 247, 8);
    }

    /** "of a granule some bytes of which are good by the shadow of the next granule". */
    private static void kindOfAGranuleThatIsGoodInPart() {
        for (int good = 1; good <= 7; good++) {
            ShadowWard w = new ShadowWard(2048, 0);
            w.global(good);
            w.enter(8 + good, good, 0, 0);
            w.allocate(0, 16 + good, 0);
            for (int k = good; k < 8; k++) {
                kind(w, k, good, 7);
                kind(w, w.variable(0, 0) + 8 + k, good, 4);
                kind(w, w.variable(0, 1) + k, good, 4);
                kind(w, 528 + 16 + k, good, 1);
            }
            w.scope(0, 1, false);
            kind(w, w.variable(0, 1) + 7, 248, 6);
        }
    }

    /** "9 no address". */
    private static void kindOfNoAddress() {
        ShadowWard w = new ShadowWard(1024, 0);
        for (int address : new int[] {-1, -8, 1024, 1025, LEAST, LEAST + 1, MOST - 6, MOST}) {
            check.same("load(" + address + ", 8)", w.load(address, 8), 0);
            report(w, "load(" + address + ", 8)", 9, address, 8, 0, 0, NONE, 0, 0, 0, 0);
        }
        check.same("the last address is one", w.load(1023, 8), 0);
        report(w, "the last address is one", 1, 1023, 8, 0);
    }

    /** "10 a block is freed that is in QUARANTINE; 11 what is freed is no block's address; 12 a block is freed by
     *  another kind". */
    private static void kindsOfFrees() {
        ShadowWard w = new ShadowWard(1024, 48);
        w.allocate(1, 16, 0);
        w.allocate(1, 16, 0);
        check.no("a live one by another kind", w.free(0, 272, 0));
        report(w, "a live one by another kind", 12, 272);
        check.no("the byte before a block's address", w.free(1, 271, 0));
        report(w, "the byte before a block's address", 11, 271);
        check.no("the byte behind a block's address", w.free(1, 273, 0));
        report(w, "the byte behind a block's address", 11, 273);
        check.no("a chunk's address", w.free(1, 256, 0));
        report(w, "a chunk's address", 11, 256);
        check.yes("the live one", w.free(1, 272, 0));
        check.no("one in quarantine", w.free(1, 272, 0));
        report(w, "one in quarantine", 10, 272);
        check.no("one in quarantine by another kind", w.free(2, 272, 0));
        report(w, "one in quarantine by another kind", 10, 272);
        check.no("inside one in quarantine", w.free(1, 280, 0));
        report(w, "inside one in quarantine", 11, 280);
        check.yes("the other one", w.free(1, 320, 0));
        check.no("one that is gone", w.free(1, 272, 0));
        report(w, "one that is gone", 11, 272);
    }

    /** "13 a copy onto itself". */
    private static void kindOfACopyOntoItself() {
        ShadowWard w = new ShadowWard(1024, 0);
        w.global(32);
        for (int apart = -5; apart <= 5; apart++) {
            int reports = w.told(6);
            boolean together = apart > -4 && apart < 4;
            check.same("4 bytes, " + apart + " apart", Check.bit(w.copy(10 + apart, 10, 4, false)),
                Check.bit(!together));
            check.same("reports, " + apart + " apart", w.told(6) - reports, Check.bit(together));
            if (together) {
                report(w, apart + " apart", 13, 10 + apart, 4, 1, 1, 0, 0, 0, 0, 0);
            }
        }
    }

    private static void near(ShadowWard w, int address, int place, int number, int far, int side) {
        check.no("free at " + address, w.free(0, address, 0));
        report(w, "at " + address, w.report(w.told(6) - 1, 0), address, 0, 1, place, number, far, side);
    }

    /** "Its NEAREST region, when its address is one". */
    private static void nearestOfNoAddress() {
        ShadowWard w = new ShadowWard(1024, 0);
        w.global(8);
        w.enter(8, 0, 0, 0);
        w.allocate(1, 8, 0);
        for (int address : new int[] {-2, 1024, LEAST, MOST}) {
            near(w, address, 0, NONE, 0, 0);
        }
        near(w, 0, 1, 0, 0, 0);
        near(w, 1023, 3, 0, 1023 - 280 + 1, 1);
    }

    /** "is of the GLOBALS the globals, of the STACK the variables of frames that there are, of the HEAP the
     *  blocks that are LIVE or in QUARANTINE". */
    private static void nearestIsOfItsPart() {
        ShadowWard none = new ShadowWard(1024, 0);
        for (int address : new int[] {0, 127, 128, 255, 256, 1023}) {
            near(none, address, 0, NONE, 0, 0);
        }
        ShadowWard w = new ShadowWard(1024, 0);
        w.global(96);
        w.enter(64, 0, 0, 0);
        w.allocate(1, 8, 0);
        near(w, 127, 1, 0, 32, 1);
        near(w, 128, 2, 0, 32, 2);
        near(w, 255, 2, 0, 32, 1);
        near(w, 256, 3, 0, 16, 2);
        ShadowWard stack = new ShadowWard(1024, 0);
        stack.enter(64, 0, 0, 0);
        near(stack, 127, 0, NONE, 0, 0);
        near(stack, 256, 0, NONE, 0, 0);
        ShadowWard about = new ShadowWard(1024, 0);
        about.global(96);
        about.allocate(1, 8, 0);
        near(about, 128, 0, NONE, 0, 0);
        near(about, 255, 0, NONE, 0, 0);
    }

    /** "the variables of frames that there are". */
    private static void nearestOfFramesThatThereAre() {
        ShadowWard w = new ShadowWard(2048, 0);
        w.enter(1, 0, 0, 0);
        w.enter(1, 0, 0, 0);
        int outer = w.variable(0, 0);
        int inner = w.variable(1, 0);
        near(w, inner, 2, 4, 0, 0);
        w.scope(1, 0, false);
        near(w, inner, 2, 4, 0, 0);
        w.leave();
        near(w, inner, 2, 0, outer - inner, 2);
        w.leave();
        near(w, inner, 0, NONE, 0, 0);
        near(w, outer, 0, NONE, 0, 0);
    }

    /** "the blocks that are LIVE or in QUARANTINE". */
    private static void nearestOfBlocksThatAreNotGone() {
        ShadowWard w = new ShadowWard(1024, 48);
        w.allocate(1, 16, 0);
        w.allocate(1, 16, 0);
        near(w, 275, 3, 0, 0, 0);
        w.free(1, 272, 0);
        near(w, 275, 3, 0, 0, 0);
        w.free(1, 320, 0);
        check.same("gone", w.block(0, 3), 2);
        near(w, 275, 3, 1, 45, 2);
        w.allocate(1, 1024, 0);
        near(w, 275, 0, NONE, 0, 0);
    }

    /** "0, when it is one of its bytes; how much its address is below the region's, or how much it is not below
     *  the region's end, and 1 more". */
    private static void farCountsFromTheRegionsEdges() {
        ShadowWard w = new ShadowWard(2048, 48);
        w.global(1);
        w.global(10);
        w.enter(10, 0, 0, 0);
        w.allocate(1, 10, 0);
        int[] starts = {64, w.variable(0, 0), 528};
        int[] numbers = {1, 0, 0};
        for (int place = 1; place <= 3; place++) {
            int start = starts[place - 1];
            int number = numbers[place - 1];
            near(w, start - 2, place, number, 2, 2);
            near(w, start - 1, place, number, 1, 2);
            near(w, start, place, number, 0, 0);
            near(w, start + 1, place, number, 0, 0);
            near(w, start + 9, place, number, 0, 0);
            near(w, start + 10, place, number, 1, 1);
            near(w, start + 11, place, number, 2, 1);
        }
        ShadowWard empty = new ShadowWard(1024, 0);
        empty.allocate(1, 0, 0);
        near(empty, 271, 3, 0, 1, 2);
        near(empty, 272, 3, 0, 1, 1);
        near(empty, 273, 3, 0, 2, 1);
    }

    /** "the one to which it is least FAR ... of several the one with the least address". */
    private static void nearestOfSeveralIsTheLeast() {
        ShadowWard w = new ShadowWard(2048, 0);
        w.global(9);
        w.global(9);
        near(w, 35, 1, 0, 27, 1);
        near(w, 36, 1, 0, 28, 1);
        near(w, 37, 1, 1, 27, 2);
        w.enter(31, 31, 0, 0);
        int first = w.variable(0, 0);
        near(w, first + 46, 2, 0, 16, 1);
        near(w, first + 47, 2, 0, 17, 1);
        near(w, first + 48, 2, 1, 16, 2);
        ShadowWard frames = new ShadowWard(2048, 0);
        frames.enter(31, 0, 0, 0);
        frames.enter(31, 0, 0, 0);
        int inner = frames.variable(1, 0);
        // The inner one, number 4, has the least address, though it is the younger one: 33 to either.
        near(frames, inner + 63, 2, 4, 33, 1);
        near(frames, inner + 64, 2, 0, 32, 2);
        ShadowWard blocks = new ShadowWard(1024, 0);
        blocks.allocate(1, 16, 0);
        blocks.allocate(1, 16, 0);
        blocks.free(1, 272, 0);
        blocks.allocate(1, 15, 0);
        // Block 2 at 272 ends at 287, block 1 is at 320: 17 to either.
        near(blocks, 303, 3, 2, 17, 1);
        near(blocks, 304, 3, 1, 16, 2);
    }

    private static void lost(ShadowWard w, String what, int... due) {
        int from = 0;
        check.same(what + ": told(11)", w.told(11), due.length);
        for (int k = 0; k < due.length; k++) {
            check.same(what + ": lost(" + from + ", false)", w.lost(from, false), due[k]);
            from = due[k] + 1;
        }
        check.same(what + ": lost(" + from + ", false)", w.lost(from, false), NONE);
    }

    private static void alone(ShadowWard w, String what, int... due) {
        int from = 0;
        for (int k = 0; k < due.length; k++) {
            check.same(what + ": lost(" + from + ", true)", w.lost(from, true), due[k]);
            from = due[k] + 1;
        }
        check.same(what + ": lost(" + from + ", true)", w.lost(from, true), NONE);
    }

    /** "A WORD is four bytes from a multiple of 4 on, the lowest first, as a number". */
    private static void wordsBeginAtMultiplesOfFour() {
        for (int at = 0; at <= 12; at++) {
            ShadowWard w = new ShadowWard(1024, 0);
            w.global(16);
            w.allocate(0, 16, 0);
            w.store(at, 4, 272);
            if (at % 4 == 0) {
                lost(w, "a word at " + at);
            } else {
                lost(w, "no word at " + at, 0);
            }
        }
        for (int at = 0; at <= 12; at++) {
            ShadowWard w = new ShadowWard(1024, 0);
            w.allocate(0, 16, 0);
            w.allocate(0, 16, 0);
            w.fill(272, 16, 0);
            w.store(272 + at, 4, 320);
            if (at % 4 == 0) {
                alone(w, "a word of a lost one at " + at, 0);
            } else {
                alone(w, "no word of a lost one at " + at, 0, 1);
            }
        }
        ShadowWard turned = new ShadowWard(1024, 0);
        turned.global(4);
        turned.allocate(0, 16, 0);
        turned.store(0, 4, 0x10010000L);
        lost(turned, "the lowest last", 0);
        turned.store(0, 4, 0x00000110L);
        lost(turned, "the lowest first");
    }

    /** "four bytes ... as a number": all four count, and a great one is no address. */
    private static void wordsAreNumbersWithoutASign() {
        for (int byteOfWord = 1; byteOfWord <= 3; byteOfWord++) {
            ShadowWard w = new ShadowWard(1024, 0);
            w.global(8);
            w.allocate(0, 16, 0);
            w.store(0, 8, 272);
            lost(w, "272");
            w.store(byteOfWord, 1, 128);
            lost(w, "byte " + byteOfWord + " is 128", 0);
        }
        ShadowWard w = new ShadowWard(1024, 0);
        w.global(8);
        w.allocate(0, 16, 0);
        w.store(0, 8, -1);
        lost(w, "the greatest word", 0);
        w.store(0, 8, 272L << 32);
        lost(w, "the next word");
    }

    /** "one of whose bytes no region has, or some but not all, is none". */
    private static void wordsLieWholeInARegion() {
        for (int size = 1; size <= 8; size++) {
            ShadowWard w = new ShadowWard(1024, 0);
            int last = size <= 4 ? 0 : 4;
            // The stack keeps its bytes, so that the variable's last word goes on behind it.
            w.store(192 + last, 4, 320);
            w.enter(size, 0, 0, 0);
            w.global(size);
            w.store(last, size - last, 272);
            w.allocate(0, 3, 0);
            w.allocate(0, 3, 0);
            if (size % 4 == 0) {
                lost(w, "regions of " + size);
            } else {
                lost(w, "regions of " + size, 0, 1);
            }
        }
        // The bytes of a block that was there before end the word of a block of 6 bytes.
        ShadowWard w = new ShadowWard(1024, 0);
        w.global(4);
        w.allocate(0, 8, 0);
        w.store(276, 4, 320);
        w.free(0, 272, 0);
        w.allocate(0, 6, 0);
        w.allocate(0, 1, 0);
        w.store(0, 4, 272);
        w.store(276, 2, 320);
        check.bytes("the whole word", w, 276, 64, 1, 0, 0);
        lost(w, "a found block with a part of a word", 2);
        alone(w, "a found block with a part of a word", 2);
        w.store(0, 4, 0);
        alone(w, "a lost block with a part of a word", 1, 2);
        // Bytes between regions lead nowhere.
        ShadowWard between = new ShadowWard(1024, 0);
        between.fill(128, 128, 0);
        between.store(128, 4, 272);
        between.allocate(0, 16, 0);
        lost(between, "bytes of no region", 0);
    }

    /** "It LEADS to a live block, if it is the address of one of its bytes." */
    private static void wordLeadsToTheBytesOfABlock() {
        ShadowWard w = new ShadowWard(1024, 0);
        w.global(4);
        w.allocate(0, 5, 0);
        int[][] rows = {{0, 1}, {255, 1}, {256, 1}, {271, 1}, {272, 0}, {273, 0}, {276, 0}, {277, 1}, {279, 1},
            {288, 1}, {304, 1}, {1023, 1}, {1024, 1}};
        for (int[] row : rows) {
            w.store(0, 4, row[0]);
            check.same("lost ones with the word " + row[0], w.told(11), row[1]);
        }
        ShadowWard empty = new ShadowWard(1024, 0);
        empty.global(4);
        empty.allocate(0, 0, 0);
        empty.store(0, 4, 272);
        lost(empty, "no word leads to no bytes", 0);
    }

    /** "a live block": what was freed is neither found nor lost, and leads nowhere. */
    private static void wordLeadsToLiveBlocksOnly() {
        ShadowWard w = new ShadowWard(1024, 100);
        w.global(4);
        w.allocate(0, 4, 0);
        w.allocate(0, 4, 0);
        w.store(0, 4, 272);
        w.store(272, 4, 320);
        lost(w, "a chain");
        w.free(0, 272, 0);
        lost(w, "its first one is in quarantine", 1);
        alone(w, "its first one is in quarantine", 1);
        check.same("no place", w.allocate(0, 1024, 0), NONE);
        lost(w, "its first one is gone", 1);
        check.same("a new one there", w.allocate(0, 2, 0), 272);
        lost(w, "a new one without a word", 1);
    }

    /** "ROOTS are the globals and the variables in scope of all frames." */
    private static void rootsAreGlobalsAndVariablesInScope() {
        ShadowWard w = new ShadowWard(4096, 0);
        w.global(4);
        w.global(4);
        w.enter(4, 4, 0, 0);
        w.enter(4, 0, 0, 0);
        int[] roots = {0, 64, w.variable(0, 0), w.variable(0, 1), w.variable(1, 0)};
        for (int b = 0; b < 5; b++) {
            check.yes("store", w.store(roots[b], 4, w.allocate(0, 1, 0)));
        }
        lost(w, "each has a root");
        w.scope(0, 1, false);
        lost(w, "a variable out of scope", 3);
        w.scope(1, 0, false);
        lost(w, "two of them", 3, 4);
        w.scope(0, 1, true);
        lost(w, "into scope again", 4);
        w.scope(1, 0, true);
        w.lock(0, 1024);
        lost(w, "locks do not matter");
        w.leave();
        lost(w, "a frame that was left", 4);
        w.leave();
        lost(w, "both frames", 2, 3, 4);
    }

    /** "A live block is FOUND, if a word of a root leads to it, or one of a block that is found; else it is
     *  LOST." */
    private static void foundBlocksLeadFurther() {
        ShadowWard w = new ShadowWard(2048, 0);
        w.global(4);
        int[] at = new int[6];
        for (int b = 0; b < 6; b++) {
            at[b] = w.allocate(0, 8, 0);
        }
        // 5 leads to 4, that to 3 and so on: against the order of their numbers.
        for (int b = 5; b > 0; b--) {
            w.store(at[b] + 4, 4, at[b - 1] + 7);
        }
        lost(w, "without a root", 0, 1, 2, 3, 4, 5);
        w.store(0, 4, at[5]);
        lost(w, "all by one root");
        w.store(0, 4, at[3]);
        lost(w, "from 3 on", 4, 5);
        w.store(at[0], 4, at[3]);
        lost(w, "a ring", 4, 5);
        w.store(at[0], 4, at[0]);
        lost(w, "one that leads to itself", 4, 5);
        w.store(0, 4, 0);
        lost(w, "a lost one leads to itself", 0, 1, 2, 3, 4, 5);
    }

    /** "A lost one is LOST ALONE, if no word of another lost one leads to it." */
    private static void lostAloneIsLedToByNoOther() {
        ShadowWard w = new ShadowWard(1024, 100);
        w.global(4);
        for (int b = 0; b < 4; b++) {
            w.allocate(0, 8, 0);
        }
        alone(w, "no words", 0, 1, 2, 3);
        w.store(272, 4, 272);
        alone(w, "a word of its own", 0, 1, 2, 3);
        w.store(320, 4, 279);
        alone(w, "the last byte by another", 1, 2, 3);
        w.store(320, 4, 280);
        alone(w, "behind it", 0, 1, 2, 3);
        w.store(324, 4, 368);
        w.store(368, 4, 320);
        alone(w, "two lead to one another", 0, 3);
        w.store(0, 4, 368);
        lost(w, "they are found", 0, 3);
        alone(w, "they are found", 0, 3);
        w.store(0, 4, 0);
        w.free(0, 368, 0);
        alone(w, "what was freed is no lost one", 0, 1, 3);
    }

    /** "IndexOutOfBoundsException ... Of several the first that the call names." */
    private static void firstExceptionOfSeveral() {
        ShadowWard w = new ShadowWard(1024, 0);
        check.noSuch(w, "no report, and another what", () -> w.report(0, 10));
        check.noSuch(w, "no block, and another what", () -> w.block(0, 8));
        w.load(-1, 1);
        w.allocate(0, 1, 0);
        check.illegalArgument(w, "a report, and another what", () -> w.report(0, 10));
        check.illegalArgument(w, "a block, and another what", () -> w.block(0, 8));
        check.noSuch(w, "no frame, nor variable", () -> w.variable(0, 4));
        check.illegalArgument(w, "neither kind nor size", () -> w.allocate(3, -1, 0));
        check.illegalArgument(w, "no block there, nor a size", () -> w.resize(5, -1, 0));
        check.illegalArgument(w, "neither addresses nor a number of them", () -> w.lock(-1, -1));
    }

    /** "A call that throws changes nothing." */
    private static void throwingChangesNothing() {
        ShadowWard w = new ShadowWard(1024, 100);
        w.global(9);
        w.enter(9, 0, 0, 0);
        w.allocate(0, 24, 1);
        w.allocate(1, 9, 2);
        w.free(1, 336, 3);
        w.lock(272, 8);
        w.load(-1, 1);
        w.store(0, 4, 280);
        check.illegalArgument(w, "global", () -> w.global(513));
        check.illegalArgument(w, "enter", () -> w.enter(1, 1, 1, 129));
        check.noSuch(w, "scope", () -> Check.bit(w.scope(0, 1, false)));
        check.noSuch(w, "variable", () -> w.variable(1, 0));
        check.illegalArgument(w, "allocate", () -> w.allocate(0, 1025, 4));
        check.illegalArgument(w, "free", () -> Check.bit(w.free(3, 272, 4)));
        check.illegalArgument(w, "resize", () -> w.resize(272, 1025, 4));
        check.illegalArgument(w, "load", () -> w.load(5000, 9));
        check.illegalArgument(w, "store", () -> Check.bit(w.store(0, 9, -1)));
        check.illegalArgument(w, "fill", () -> Check.bit(w.fill(0, 1025, 7)));
        check.illegalArgument(w, "copy", () -> Check.bit(w.copy(0, 0, 1025, false)));
        check.illegalArgument(w, "compare", () -> w.compare(-1, -1, 1025));
        check.illegalArgument(w, "lock", () -> w.lock(272, 1024));
        check.illegalArgument(w, "unlock", () -> w.unlock(272, 1024));
        check.noSuch(w, "report", () -> w.report(1, 0));
        check.noSuch(w, "block", () -> w.block(2, 0));
        check.noSuch(w, "shadow", () -> w.shadow(128));
        check.noSuch(w, "peek", () -> w.peek(1024));
        check.noSuch(w, "held", () -> w.held(1));
        check.illegalArgument(w, "told", () -> w.told(12));
        w.leave();
        check.illegalState(w, "leave", () -> w.leave());
    }
}
