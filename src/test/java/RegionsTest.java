/** Promises 1 to 9: a new object, and what makes and unmakes regions. */
public final class RegionsTest {
    private static final Check check = new Check("RegionsTest");
    private static final int NONE = ShadowWard.NONE;

    public static void main(String[] args) {
        newObjectTakesOnlyNumbersThatMayBe();
        newObjectHasItsFirstMemoryAndShadow();
        globalsLieWithGapsBetween();
        globalsEndWithTheirPart();
        globalRefusesSizes();
        enterLaysOutAFrame();
        enterLeavesBytesAlone();
        enterEndsWithTheStack();
        enterRefusesSizes();
        leaveTakesTheInnermost();
        scopeChangesShadows();
        scopeRefusesWhatIsNot();
        variableTellsAddresses();
        allocateLaysOutAChunk();
        allocateChoosesTheLeastPlace();
        allocateTakesFromQuarantine();
        allocateRefusesNumbers();
        freeHoldsBlocksBack();
        freeReports();
        resizeMovesABlock();
        resizeReports();
        resizeWithoutPlace();
        check.finish();
    }

    private static void size(int n, int q, int dueN, int dueQ) {
        ShadowWard w = new ShadowWard(n, q);
        check.same("N of new(" + n + ", " + q + ")", w.told(0), dueN);
        check.same("Q of new(" + n + ", " + q + ")", w.told(1), dueQ);
    }

    private static void newObjectTakesOnlyNumbersThatMayBe() {
        check.same("NONE", ShadowWard.NONE, -1);
        size(1024, 0, 1024, 0);
        size(1088, 1088, 1088, 1088);
        size(1088, 1089, 1088, 1024);
        size(8192, 8192, 8192, 8192);
        size(8192, 8193, 8192, 1024);
        size(960, 5, 4096, 5);
        size(1023, 5, 4096, 5);
        size(1025, 4096, 4096, 4096);
        size(1056, 4097, 4096, 1024);
        size(8256, 8192, 4096, 1024);
        size(0, -1, 4096, 1024);
        size(-1024, 1, 4096, 1);
        size(Integer.MIN_VALUE, Integer.MIN_VALUE, 4096, 1024);
        size(Integer.MAX_VALUE, Integer.MAX_VALUE, 4096, 1024);
    }

    private static void newObjectHasItsFirstMemoryAndShadow() {
        // 1088 / 8 is 136: the stack begins at a granule that is no multiple of 16.
        ShadowWard w = new ShadowWard(1088, 0);
        for (int g = 0; g < 136; g++) {
            check.same("first shadow of " + g, w.shadow(g), g < 17 ? 249 : g < 34 ? 0 : 250);
        }
        for (int a = 0; a < 1088; a++) {
            check.same("first byte " + a, w.peek(a), 0);
        }
        for (int what = 2; what <= 11; what++) {
            check.same("told(" + what + ") at first", w.told(what), what == 10 ? 136 : 0);
        }
    }

    private static void globalsLieWithGapsBetween() {
        ShadowWard w = new ShadowWard(4096, 0);
        check.same("first global", w.global(32), 0);
        check.same("behind one that ends at a multiple of 32", w.global(33), 64);
        check.same("behind one that ends elsewhere", w.global(8), 160);
        check.same("globals", w.told(2), 3);
        check.shadows("globals", w, 0, 0, 0, 0, 0, 249, 249, 249, 249, 0, 0, 0, 0, 1, 249);
        check.shadows("third", w, 19, 249, 0, 249);
    }

    private static void globalsEndWithTheirPart() {
        ShadowWard w = new ShadowWard(1024, 0);
        check.same("one that does not lie there", w.global(97), NONE);
        check.same("none was made", w.told(2), 0);
        check.shadows("none was opened", w, 0, 249, 249);
        check.same("one that just lies there", w.global(96), 0);
        check.same("no more", w.global(1), NONE);
        ShadowWard two = new ShadowWard(1024, 0);
        two.global(32);
        check.same("33 do not fit", two.global(33), NONE);
        check.same("32 do", two.global(32), 64);
        check.shadows("redzone at the end", two, 12, 249, 249, 249, 249, 0);
        ShadowWard big = new ShadowWard(8192, 0);
        check.same("the greatest", big.global(512), 0);
        check.same("behind it", big.global(448), 544);
        check.same("then none", big.global(1), NONE);
    }

    private static void globalRefusesSizes() {
        ShadowWard w = new ShadowWard(8192, 0);
        for (int size : new int[] {0, -1, 513, Integer.MIN_VALUE, Integer.MAX_VALUE}) {
            check.illegalArgument(w, "global(" + size + ")", () -> w.global(size));
        }
    }

    private static void enterLaysOutAFrame() {
        ShadowWard w = new ShadowWard(4096, 0);
        // 32, 8 + 24 + 32, 33 + 31 + 32, 32 + 32: 256 bytes.
        check.same("enter", w.enter(0, 8, 33, 32), 768);
        check.same("frames", w.told(3), 1);
        check.shadows("left", w, 95, 0, 241, 241, 241, 241);
        check.shadows("first", w, 100, 0, 242, 242, 242, 242, 242, 242, 242);
        check.shadows("second", w, 108, 0, 0, 0, 0, 1, 242, 242, 242, 242, 242, 242, 242);
        check.shadows("last", w, 120, 0, 0, 0, 0, 243, 243, 243, 243, 250);
        check.same("inner frame", w.enter(5, 0, 0, 0), 672);
        check.shadows("inner frame", w, 83, 0, 241, 241, 241, 241, 5, 243, 243, 243, 243, 243, 243, 243, 241);
        check.same("frames", w.told(3), 2);
    }

    private static void enterLeavesBytesAlone() {
        ShadowWard w = new ShadowWard(1024, 0);
        check.yes("fill the stack", w.fill(128, 128, 77));
        w.enter(40, 0, 0, 0);
        w.leave();
        w.enter(1, 0, 0, 0);
        for (int a = 128; a < 256; a++) {
            check.same("byte " + a, w.peek(a), 77);
        }
    }

    private static void enterEndsWithTheStack() {
        ShadowWard w = new ShadowWard(1024, 0);
        check.changesNothing(w, "160 bytes in 128", () -> w.enter(1, 1, 0, 0), NONE);
        check.same("128 bytes in 128", w.enter(0, 0, 64, 0), 128);
        check.same("no more", w.enter(1, 0, 0, 0), NONE);
        check.same("frames", w.told(3), 1);
        ShadowWard odd = new ShadowWard(1088, 0);
        check.same("128 bytes in 136", odd.enter(64, 0, 0, 0), 144);
        check.same("the granule below is not the frame's", odd.shadow(17), 0);
    }

    private static void enterRefusesSizes() {
        ShadowWard w = new ShadowWard(8192, 0);
        check.same("the greatest", w.enter(128, 128, 128, 128), 2048 - 672);
        check.illegalArgument(w, "all 0", () -> w.enter(0, 0, 0, 0));
        for (int size : new int[] {-1, 129, Integer.MIN_VALUE, Integer.MAX_VALUE}) {
            check.illegalArgument(w, "a", () -> w.enter(size, 1, 1, 1));
            check.illegalArgument(w, "b", () -> w.enter(1, size, 1, 1));
            check.illegalArgument(w, "c", () -> w.enter(1, 1, size, 1));
            check.illegalArgument(w, "d", () -> w.enter(1, 1, 1, size));
        }
        ShadowWard full = new ShadowWard(1024, 0);
        full.enter(64, 0, 0, 0);
        check.illegalArgument(full, "even when it would not fit", () -> full.enter(129, 0, 0, 0));
    }

    private static void leaveTakesTheInnermost() {
        ShadowWard w = new ShadowWard(2048, 0);
        check.illegalState(w, "leave without a frame", () -> w.leave());
        w.enter(1, 0, 0, 0);
        w.enter(2, 0, 0, 0);
        check.same("leave", w.leave(), 1);
        check.shadows("left frame", w, 39, 0, 245, 245, 245, 245, 245, 245, 245, 245, 245, 245, 245, 245, 241);
        check.shadows("the other one stays", w, 56, 1, 243);
        check.same("leave", w.leave(), 0);
        check.shadows("left frame", w, 52, 245, 245, 245, 245, 245, 245, 245, 245, 245, 245, 245, 245, 250);
        check.illegalState(w, "leave without a frame", () -> w.leave());
        check.same("the place is used again", w.enter(3, 0, 0, 0), 416);
        check.shadows("what lies below stays", w, 51, 245, 241);
    }

    private static void scopeChangesShadows() {
        ShadowWard w = new ShadowWard(2048, 0);
        w.enter(5, 20, 0, 0);
        check.no("it is in scope at first", w.scope(0, 1, true));
        check.yes("out", w.scope(0, 1, false));
        check.shadows("out", w, 55, 242, 248, 248, 248, 243);
        check.no("out again", w.scope(0, 1, false));
        check.shadows("the other one stays", w, 48, 5, 242);
        check.yes("in", w.scope(0, 1, true));
        check.shadows("in", w, 55, 242, 0, 0, 4, 243);
        w.lock(w.variable(0, 1), 8);
        check.no("in again", w.scope(0, 1, true));
        check.shadows("then nothing is changed", w, 56, 247, 0, 4);
        w.scope(0, 1, false);
        check.same("locks are gone", w.unlock(448, 24), 0);
        w.scope(0, 1, true);
        check.shadows("and it is opened whole", w, 56, 0, 0, 4);
        w.scope(0, 0, false);
        w.leave();
        w.enter(5, 20, 0, 0);
        check.no("a new frame's variables are in scope", w.scope(0, 0, true));
    }

    private static void scopeRefusesWhatIsNot() {
        ShadowWard w = new ShadowWard(2048, 0);
        check.noSuch(w, "no frame", () -> Check.bit(w.scope(0, 0, true)));
        w.enter(5, 0, 7, 0);
        for (int i : new int[] {-1, 2, 4, Integer.MIN_VALUE, Integer.MAX_VALUE}) {
            check.noSuch(w, "variable " + i, () -> Check.bit(w.scope(0, i, false)));
            check.noSuch(w, "frame " + i, () -> Check.bit(w.scope(i, 0, false)));
        }
        check.noSuch(w, "frame 1", () -> Check.bit(w.scope(1, 0, false)));
    }

    private static void variableTellsAddresses() {
        ShadowWard w = new ShadowWard(4096, 0);
        check.noSuch(w, "no frame", () -> w.variable(0, 0));
        w.enter(0, 40, 0, 1);
        w.enter(128, 0, 0, 0);
        check.same("0 0", w.variable(0, 0), 864);
        check.same("0 1", w.variable(0, 1), 960);
        check.same("1 0", w.variable(1, 0), 672);
        w.scope(0, 1, false);
        check.same("out of scope", w.variable(0, 1), 960);
        for (int i : new int[] {-1, 2, Integer.MIN_VALUE, Integer.MAX_VALUE}) {
            check.noSuch(w, "variable " + i, () -> w.variable(0, i));
            check.noSuch(w, "frame " + i, () -> w.variable(i, 0));
        }
        w.leave();
        check.noSuch(w, "a frame that was left", () -> w.variable(1, 0));
    }

    private static void chunk(int size, int redzone, int bytes) {
        ShadowWard w = new ShadowWard(8192, 0);
        check.same("address of size " + size, w.allocate(1, size, -7), 2048 + redzone);
        int[] due = {2048 + redzone, size, 1, 0, 2048, bytes, -7, 0};
        for (int what = 0; what <= 7; what++) {
            check.same("block(0, " + what + ") of size " + size, w.block(0, what), due[what]);
        }
        check.same("good ones of size " + size, w.told(10), 1024 + size);
        check.same("live bytes of size " + size, w.told(9), bytes);
    }

    private static void allocateLaysOutAChunk() {
        chunk(0, 16, 32);
        chunk(1, 16, 48);
        chunk(16, 16, 48);
        chunk(17, 16, 64);
        chunk(64, 16, 96);
        chunk(65, 32, 128);
        chunk(256, 32, 304);
        chunk(257, 64, 352);
        chunk(1024, 64, 1104);
        chunk(1025, 128, 1184);
        chunk(6000, 128, 6144);
        ShadowWard w = new ShadowWard(1024, 0);
        w.allocate(2, 21, Integer.MIN_VALUE);
        check.shadows("block", w, 32, 250, 250, 0, 0, 5, 250, 250, 250, 250);
        check.same("byte before", w.peek(271), 0);
        for (int a = 272; a < 293; a++) {
            check.same("byte " + a, w.peek(a), 190);
        }
        check.same("byte behind", w.peek(293), 0);
    }

    private static void allocateChoosesTheLeastPlace() {
        ShadowWard w = new ShadowWard(1024, 0);
        check.same("0", w.allocate(0, 40, 1), 272);
        check.same("1", w.allocate(0, 1, 1), 352);
        check.same("2", w.allocate(0, 0, 1), 400);
        w.free(0, 272, 1);
        check.same("that does not fit", w.allocate(0, 49, 1), 432);
        check.same("that does", w.allocate(0, 16, 1), 272);
        check.same("the rest of it", w.allocate(0, 0, 1), 320);
        check.same("all else is taken", w.allocate(0, 700, 1), NONE);
        check.same("blocks", w.told(4), 6);
        check.same("live", w.told(5), 5);
        check.same("live bytes", w.told(9), 48 + 32 + 48 + 32 + 96);
        ShadowWard full = new ShadowWard(1024, 0);
        check.same("the whole heap", full.allocate(0, 688, 1), 320);
        check.same("nothing is left", full.allocate(0, 0, 1), NONE);
        check.same("too great", new ShadowWard(1024, 0).allocate(0, 689, 1), NONE);
        check.same("N bytes", new ShadowWard(1024, 0).allocate(0, 1024, 1), NONE);
    }

    private static void allocateTakesFromQuarantine() {
        ShadowWard w = new ShadowWard(1024, 1024);
        int[] at = new int[4];
        for (int i = 0; i < 4; i++) {
            at[i] = w.allocate(0, 128, i);
        }
        check.same("176 bytes each", w.told(9), 4 * 176);
        check.same("last place", at[3], 256 + 3 * 176 + 32);
        w.free(0, at[2], 9);
        w.free(0, at[1], 9);
        w.free(0, at[0], 9);
        check.same("held", w.told(7), 3);
        check.same("a place without quarantine", w.allocate(1, 16, 5), 256 + 4 * 176 + 16);
        check.same("held", w.told(7), 3);
        check.same("the oldest leaves", w.allocate(1, 128, 5), at[2]);
        check.same("held", w.told(7), 2);
        check.same("gone", w.block(2, 3), 2);
        check.same("the next oldest", w.held(0), 1);
        check.same("two leave for a great one", w.allocate(1, 200, 5), 256 + 32);
        check.same("none is held", w.told(7), 0);
        check.same("held bytes", w.told(8), 0);
        w.free(1, 288, 1);
        check.same("held", w.told(7), 1);
        check.same("no place at all", w.allocate(1, 900, 5), NONE);
        check.same("then quarantine is empty", w.told(7), 0);
        check.shadows("its shadows are about blocks", w, 32, 250, 250, 250, 250, 250);
        check.same("blocks", w.told(4), 7);
    }

    private static void allocateRefusesNumbers() {
        ShadowWard w = new ShadowWard(1024, 1024);
        w.allocate(0, 10, 1);
        w.free(0, 272, 1);
        for (int kind : new int[] {-1, 3, Integer.MIN_VALUE, Integer.MAX_VALUE}) {
            check.illegalArgument(w, "kind " + kind, () -> w.allocate(kind, 1, 1));
        }
        for (int size : new int[] {-1, 1025, Integer.MIN_VALUE, Integer.MAX_VALUE}) {
            check.illegalArgument(w, "size " + size, () -> w.allocate(0, size, 1));
        }
    }

    private static void freeHoldsBlocksBack() {
        ShadowWard w = new ShadowWard(1024, 100);
        int a = w.allocate(0, 13, 1);
        int b = w.allocate(1, 16, 2);
        int c = w.allocate(2, 20, 3);
        int d = w.allocate(2, 60, 4);
        w.lock(b, 16);
        check.yes("free 0", w.free(0, a, 11));
        check.shadows("freed", w, 32, 250, 250, 253, 253, 250, 250);
        check.same("its bytes stay", w.peek(a), 190);
        check.yes("free 1", w.free(1, b, 12));
        check.shadows("locked, then freed", w, b / 8, 253, 253, 250);
        check.same("96 bytes are held", w.told(8), 96);
        check.same("two are held", w.told(7), 2);
        check.same("two are live", w.told(5), 2);
        check.yes("free 2", w.free(2, c, 13));
        check.same("64 more are too many: two leave", w.told(7), 1);
        check.same("the youngest stays", w.held(0), 2);
        check.same("0 is gone", w.block(0, 3), 2);
        check.same("1 is gone", w.block(1, 3), 2);
        check.same("2 is in quarantine", w.block(2, 3), 1);
        check.same("3 is live", w.block(3, 3), 0);
        check.same("freed at", w.block(0, 7), 11);
        check.shadows("gone", w, 32, 250, 250, 250, 250, 250, 250, 250, 250, 250, 250, 250, 250);
        check.yes("free 3", w.free(2, d, 14));
        check.same("96 and 64 are more than 100", w.told(7), 1);
        check.same("just the last", w.held(0), 3);
        ShadowWard none = new ShadowWard(1024, 0);
        none.allocate(0, 0, 1);
        check.yes("without quarantine", none.free(0, 272, 1));
        check.same("it is gone at once", none.block(0, 3), 2);
        ShadowWard just = new ShadowWard(1024, 48);
        just.allocate(0, 1, 1);
        just.free(0, 272, 1);
        check.same("as many bytes as Q are held", just.told(7), 1);
        ShadowWard less = new ShadowWard(1024, 47);
        less.allocate(0, 1, 1);
        less.free(0, 272, 1);
        check.same("one less is too few", less.told(7), 0);
    }

    private static void freeReports() {
        ShadowWard w = new ShadowWard(1024, 100);
        w.allocate(1, 8, 21);
        check.no("NONE", w.free(1, NONE, 1));
        check.same("is not reported", w.told(6), 0);
        check.no("another kind", w.free(0, 272, 1));
        check.report("another kind", w, 0, 12, 272, 0, 1, 3, 0, 0, 0, 21, 0);
        check.same("it stays live", w.block(0, 3), 0);
        check.no("inside", w.free(1, 273, 1));
        check.report("inside", w, 1, 11, 273, 0, 1, 3, 0, 0, 0, 21, 0);
        check.no("its chunk", w.free(1, 256, 1));
        check.report("its chunk", w, 2, 11, 256, 0, 1, 3, 0, 16, 2, 21, 0);
        check.yes("right", w.free(1, 272, 22));
        check.no("twice", w.free(1, 272, 23));
        check.report("twice", w, 3, 10, 272, 0, 1, 3, 0, 0, 0, 21, 22);
        check.no("twice, by another kind", w.free(2, 272, 24));
        check.report("twice, by another kind", w, 4, 10, 272, 0, 1, 3, 0, 0, 0, 21, 22);
        check.same("freed at", w.block(0, 7), 22);
        check.no("no address", w.free(1, 1024, 1));
        check.report("no address", w, 5, 11, 1024, 0, 1, 0, NONE, 0, 0, 0, 0);
        check.no("no address", w.free(1, Integer.MIN_VALUE, 1));
        check.report("no address", w, 6, 11, Integer.MIN_VALUE, 0, 1, 0, NONE, 0, 0, 0, 0);
        check.no("a global's", w.free(1, 0, 1));
        check.report("a global's", w, 7, 11, 0, 0, 1, 0, NONE, 0, 0, 0, 0);
        check.same("no place", w.allocate(0, 1024, 1), NONE);
        check.no("it is gone", w.free(1, 272, 1));
        check.report("it is gone", w, 8, 11, 272, 0, 1, 0, NONE, 0, 0, 0, 0);
        for (int kind : new int[] {-1, 3, Integer.MIN_VALUE, Integer.MAX_VALUE}) {
            check.illegalArgument(w, "kind " + kind, () -> Check.bit(w.free(kind, 272, 1)));
            check.illegalArgument(w, "kind " + kind, () -> Check.bit(w.free(kind, NONE, 1)));
        }
    }

    private static void resizeMovesABlock() {
        ShadowWard w = new ShadowWard(1024, 200);
        check.same("with NONE", w.resize(NONE, 10, 31), 272);
        check.same("it is of kind 0", w.block(0, 2), 0);
        check.same("given at", w.block(0, 6), 31);
        for (int i = 0; i < 10; i++) {
            w.store(272 + i, 1, i + 1);
        }
        w.lock(272, 8);
        check.same("greater", w.resize(272, 12, 32), 320);
        for (int i = 0; i < 12; i++) {
            check.same("byte " + i, w.peek(320 + i), i < 10 ? i + 1 : 190);
        }
        check.shadows("the new one is open", w, 40, 0, 4, 250);
        check.shadows("the old one is freed", w, 34, 253, 253, 250);
        check.same("the old one is held", w.held(0), 0);
        check.same("freed at", w.block(0, 7), 32);
        check.same("given at", w.block(1, 6), 32);
        check.same("the new one is not freed", w.block(1, 7), 0);
        check.same("less", w.resize(320, 3, 33), 368);
        check.same("byte", w.peek(370), 3);
        check.same("no further byte", w.peek(371), 0);
        check.same("to nothing", w.resize(368, 0, 34), 416);
        check.same("the same size", w.resize(416, 0, 34), 448);
        check.same("nothing was reported", w.told(6), 0);
        check.same("live", w.told(5), 1);
    }

    private static void resizeReports() {
        ShadowWard w = new ShadowWard(1024, 1024);
        int other = w.allocate(1, 8, 5);
        int old = w.allocate(0, 8, 6);
        w.free(0, old, 7);
        check.same("another kind", w.resize(other, 5, 8), NONE);
        check.report("another kind", w, 0, 12, other, 0, 1, 3, 0, 0, 0, 5, 0);
        check.same("in quarantine", w.resize(old, 5, 8), NONE);
        check.report("in quarantine", w, 1, 10, old, 0, 1, 3, 1, 0, 0, 6, 7);
        check.same("no block", w.resize(5000, 1024, 8), NONE);
        check.report("no block", w, 2, 11, 5000, 0, 1, 0, NONE, 0, 0, 0, 0);
        check.same("no place was sought", w.told(7), 1);
        check.same("blocks", w.told(4), 2);
        for (int size : new int[] {-1, 1025, Integer.MIN_VALUE, Integer.MAX_VALUE}) {
            check.illegalArgument(w, "size " + size, () -> w.resize(other, size, 1));
            check.illegalArgument(w, "size " + size, () -> w.resize(NONE, size, 1));
            check.illegalArgument(w, "size " + size, () -> w.resize(5000, size, 1));
        }
    }

    private static void resizeWithoutPlace() {
        ShadowWard w = new ShadowWard(1024, 1024);
        int held = w.allocate(0, 8, 1);
        int old = w.allocate(0, 8, 2);
        w.free(0, held, 3);
        w.store(old, 8, 99);
        check.same("no place", w.resize(old, 1024, 4), NONE);
        check.same("quarantine is empty", w.told(7), 0);
        check.same("the old one stays live", w.block(1, 3), 0);
        check.same("it is not freed", w.block(1, 7), 0);
        check.same("its bytes stay", w.load(old, 8), 99);
        check.same("nothing is reported", w.told(6), 0);
        check.same("nor given", w.told(4), 2);
        check.same("NONE without a place", w.resize(NONE, 1024, 4), NONE);
    }
}
