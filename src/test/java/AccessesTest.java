/** Promises 10 to 18: what reads, writes and locks. */
public final class AccessesTest {
    private static final Check check = new Check("AccessesTest");
    private static final int NONE = ShadowWard.NONE;
    private static final int[] FAR_OUT = {-1, Integer.MIN_VALUE, Integer.MAX_VALUE};

    public static void main(String[] args) {
        loadReadsTheLowestFirst();
        loadIsJudgedByTheShadow();
        loadRefusesCounts();
        storeWritesTheLowestFirst();
        storeIsNotDoneWhenWrong();
        fillWritesBytes();
        fillIsNotDoneWhenWrong();
        copyMovesBytes();
        copyOntoItself();
        copyIsJudgedByReadingFirst();
        lengthCountsToTheFirstNothing();
        textCopiesWithItsEnd();
        textIsJudgedInItsOrder();
        compareTellsTheOrder();
        compareReadsInItsOrder();
        lockTakesWholeGranules();
        unlockGivesThemBack();
        lockRefusesNumbers();
        kindsFollowTheShadow();
        check.finish();
    }

    /** A ward with the global 0 of 40 bytes at 0, a block of 30 bytes at 528. */
    private static ShadowWard ward() {
        ShadowWard w = new ShadowWard(2048, 200);
        check.same("global", w.global(40), 0);
        check.same("block", w.allocate(0, 30, 17), 528);
        return w;
    }

    private static void loadReadsTheLowestFirst() {
        ShadowWard w = ward();
        for (int i = 0; i < 8; i++) {
            w.store(3 + i, 1, 0xF8 + i);
        }
        long all = 0xFFFEFDFCFBFAF9F8L;
        for (int n = 1; n <= 8; n++) {
            long due = n == 8 ? all : all & ((1L << (8 * n)) - 1);
            check.same("load(3, " + n + ")", w.load(3, n), due);
        }
        check.same("the last bytes", w.load(32, 8), 0);
        check.same("nothing was wrong", w.told(6), 0);
    }

    private static void loadIsJudgedByTheShadow() {
        ShadowWard w = ward();
        check.same("behind a block", w.load(556, 4), 0);
        check.report("behind a block", w, 0, 1, 558, 4, 0, 3, 0, 1, 1, 17, 0);
        check.same("all but the last", w.load(551, 7), 0xBEBEBEBEBEBEBEL);
        check.same("before a block", w.load(527, 8), 0);
        check.report("before a block", w, 1, 1, 527, 8, 0, 3, 0, 1, 2, 17, 0);
        check.same("far before it", w.load(512, 1), 0);
        check.report("far before it", w, 2, 1, 512, 1, 0, 3, 0, 16, 2, 17, 0);
        for (int k = 0; k < FAR_OUT.length; k++) {
            check.same("no address", w.load(FAR_OUT[k], 8), 0);
            check.report("no address", w, 3 + k, 9, FAR_OUT[k], 8, 0, 0, NONE, 0, 0, 0, 0);
        }
        check.same("N", w.load(2048, 1), 0);
        check.report("N", w, 6, 9, 2048, 1, 0, 0, NONE, 0, 0, 0, 0);
        check.same("the last address", w.load(2047, 2), 0);
        check.report("the last address", w, 7, 1, 2047, 2, 0, 3, 0, 2047 - 558 + 1, 1, 17, 0);
        check.same("a stack without frames is good", w.load(256, 8), 0);
        check.same("but no further", w.load(511, 2), 0);
        check.report("but no further", w, 8, 1, 512, 2, 0, 3, 0, 16, 2, 17, 0);
        check.same("reports", w.told(6), 9);
    }

    private static void loadRefusesCounts() {
        ShadowWard w = ward();
        for (int n : new int[] {0, 9, -1, Integer.MIN_VALUE, Integer.MAX_VALUE}) {
            check.illegalArgument(w, "load(0, " + n + ")", () -> w.load(0, n));
            check.illegalArgument(w, "load(-1, " + n + ")", () -> w.load(-1, n));
        }
    }

    private static void storeWritesTheLowestFirst() {
        ShadowWard w = ward();
        check.yes("store", w.store(5, 3, 0x1122334455667788L));
        check.same("5", w.peek(5), 0x88);
        check.same("6", w.peek(6), 0x77);
        check.same("7", w.peek(7), 0x66);
        check.same("8", w.peek(8), 0);
        check.yes("store 8", w.store(32, 8, Long.MIN_VALUE + 1));
        check.same("its lowest", w.peek(32), 1);
        check.same("its highest", w.peek(39), 128);
        check.same("its number", w.load(32, 8), Long.MIN_VALUE + 1);
        check.yes("a negative one", w.store(0, 1, -1));
        check.same("is a byte", w.peek(0), 255);
        for (int n : new int[] {0, 9, -1, Integer.MIN_VALUE, Integer.MAX_VALUE}) {
            check.illegalArgument(w, "store(0, " + n + ")", () -> Check.bit(w.store(0, n, 1)));
        }
    }

    private static void storeIsNotDoneWhenWrong() {
        ShadowWard w = ward();
        check.no("behind a global", w.store(36, 8, -1));
        check.report("behind a global", w, 0, 7, 40, 8, 1, 1, 0, 1, 1, 0, 0);
        check.same("not even the good bytes", w.peek(36), 0);
        check.no("no address", w.store(-4, 8, -1));
        check.report("no address", w, 1, 9, -4, 8, 1, 0, NONE, 0, 0, 0, 0);
        check.same("not even the good bytes", w.peek(0), 0);
        w.free(0, 528, 18);
        check.no("freed", w.store(530, 2, 5));
        check.report("freed", w, 2, 2, 530, 2, 1, 3, 0, 0, 0, 17, 18);
        check.same("its bytes stay", w.peek(530), 190);
    }

    private static void fillWritesBytes() {
        ShadowWard w = ward();
        check.yes("fill", w.fill(1, 38, 0x1FF));
        check.same("before", w.peek(0), 0);
        check.same("first", w.peek(1), 255);
        check.same("last", w.peek(38), 255);
        check.same("behind", w.peek(39), 0);
        check.yes("a negative one", w.fill(0, 1, -2));
        check.same("is a byte", w.peek(0), 254);
        for (int address : new int[] {-1, 50, 5000, Integer.MIN_VALUE, Integer.MAX_VALUE}) {
            check.yes("nothing at " + address, w.fill(address, 0, 1));
        }
        check.same("nothing was reported", w.told(6), 0);
        for (int n : new int[] {-1, 2049, Integer.MIN_VALUE, Integer.MAX_VALUE}) {
            check.illegalArgument(w, "fill(0, " + n + ")", () -> Check.bit(w.fill(0, n, 1)));
        }
    }

    private static void fillIsNotDoneWhenWrong() {
        ShadowWard w = ward();
        check.no("N bytes", w.fill(0, 2048, 1));
        check.report("N bytes", w, 0, 7, 40, 2048, 1, 1, 0, 1, 1, 0, 0);
        check.same("none was written", w.peek(0), 0);
        check.no("from the end on", w.fill(Integer.MAX_VALUE, 2048, 1));
        check.report("from the end on", w, 1, 9, Integer.MAX_VALUE, 2048, 1, 0, NONE, 0, 0, 0, 0);
    }

    private static void write(ShadowWard w, int address, int... bytes) {
        for (int i = 0; i < bytes.length; i++) {
            check.yes("write", w.store(address + i, 1, bytes[i]));
        }
    }

    private static void copyMovesBytes() {
        ShadowWard w = ward();
        write(w, 10, 1, 2, 3, 4, 5, 6, 7, 8);
        check.yes("rows that touch", w.copy(18, 10, 8, false));
        check.bytes("rows that touch", w, 10, 1, 2, 3, 4, 5, 6, 7, 8, 1, 2, 3, 4, 5, 6, 7, 8, 0);
        check.yes("up", w.copy(12, 10, 8, true));
        check.bytes("up", w, 10, 1, 2, 1, 2, 3, 4, 5, 6, 7, 8, 3);
        check.yes("down", w.copy(11, 13, 7, true));
        check.bytes("down", w, 10, 1, 2, 3, 4, 5, 6, 7, 8, 7, 8, 3);
        check.yes("onto itself", w.copy(10, 10, 8, true));
        check.bytes("onto itself", w, 10, 1, 2, 3, 4, 5, 6, 7, 8, 7);
        check.yes("into a block", w.copy(528, 10, 30, false));
        check.bytes("into a block", w, 527, 0, 1, 2, 3);
        for (int address : new int[] {-1, 50, 5000, Integer.MIN_VALUE, Integer.MAX_VALUE}) {
            check.yes("nothing at " + address, w.copy(address, address, 0, false));
        }
        check.same("nothing was reported", w.told(6), 0);
        for (int n : new int[] {-1, 2049, Integer.MIN_VALUE, Integer.MAX_VALUE}) {
            check.illegalArgument(w, "copy of " + n, () -> Check.bit(w.copy(0, 0, n, false)));
            check.illegalArgument(w, "move of " + n, () -> Check.bit(w.copy(0, 0, n, true)));
        }
    }

    private static void copyOntoItself() {
        ShadowWard w = ward();
        write(w, 0, 1, 2, 3, 4, 5, 6, 7, 8);
        check.no("up", w.copy(3, 0, 4, false));
        check.report("up", w, 0, 13, 3, 4, 1, 1, 0, 0, 0, 0, 0);
        check.no("down", w.copy(0, 3, 4, false));
        check.report("down", w, 1, 13, 0, 4, 1, 1, 0, 0, 0, 0, 0);
        check.no("the same", w.copy(4, 4, 1, false));
        check.bytes("nothing was done", w, 0, 1, 2, 3, 4, 5, 6, 7, 8);
        check.no("before what is not good", w.copy(527, 520, 30, false));
        check.report("before what is not good", w, 3, 13, 527, 30, 1, 3, 0, 1, 2, 17, 0);
        check.no("before what is no address", w.copy(-7, -5, 3, false));
        check.report("before what is no address", w, 4, 13, -7, 3, 1, 0, NONE, 0, 0, 0, 0);
        check.no("rows at both ends are apart", w.copy(Integer.MIN_VALUE, Integer.MAX_VALUE, 5, false));
        check.report("rows at both ends are apart", w, 5, 9, Integer.MAX_VALUE, 5, 0, 0, NONE, 0, 0, 0, 0);
        check.no("and the other way", w.copy(Integer.MAX_VALUE, Integer.MIN_VALUE, 2048, false));
        check.report("and the other way", w, 6, 9, Integer.MIN_VALUE, 2048, 0, 0, NONE, 0, 0, 0, 0);
        check.same("reports", w.told(6), 7);
    }

    private static void copyIsJudgedByReadingFirst() {
        ShadowWard w = ward();
        check.no("both are wrong", w.copy(550, 35, 20, false));
        check.report("both are wrong", w, 0, 7, 40, 20, 0, 1, 0, 1, 1, 0, 0);
        check.no("the writing is wrong", w.copy(550, 0, 20, false));
        check.report("the writing is wrong", w, 1, 1, 558, 20, 1, 3, 0, 1, 1, 17, 0);
        check.bytes("nothing was done", w, 550, 190, 190);
        check.no("a move that is wrong", w.copy(30, 25, 20, true));
        check.report("a move that is wrong", w, 2, 7, 40, 20, 0, 1, 0, 1, 1, 0, 0);
        check.same("one report each", w.told(6), 3);
    }

    private static void lengthCountsToTheFirstNothing() {
        ShadowWard w = ward();
        write(w, 0, 9, 9, 9);
        check.same("3", w.length(0), 3);
        check.same("1", w.length(2), 1);
        check.same("0", w.length(3), 0);
        check.same("the last byte", w.length(39), 0);
        check.same("nothing was wrong", w.told(6), 0);
        check.same("a block without an end", w.length(540), NONE);
        check.report("a block without an end", w, 0, 1, 558, 1, 0, 3, 0, 1, 1, 17, 0);
        w.store(557, 1, 0);
        check.same("its last byte", w.length(528), 29);
        for (int k = 0; k < FAR_OUT.length; k++) {
            check.same("no address", w.length(FAR_OUT[k]), NONE);
            check.report("no address", w, 1 + k, 9, FAR_OUT[k], 1, 0, 0, NONE, 0, 0, 0, 0);
        }
        w.fill(256, 256, 1);
        check.same("out of the stack", w.length(256), NONE);
        check.report("out of the stack", w, 4, 1, 512, 1, 0, 3, 0, 16, 2, 17, 0);
        w.lock(0, 8);
        check.same("locked", w.length(0), NONE);
        check.report("locked", w, 5, 8, 0, 1, 0, 1, 0, 0, 0, 0, 0);
    }

    private static void textCopiesWithItsEnd() {
        ShadowWard w = ward();
        write(w, 0, 1, 2, 3);
        check.same("text", w.text(528, 0), 3);
        check.bytes("text", w, 528, 1, 2, 3, 0, 190);
        check.same("only its end", w.text(530, 3), 0);
        check.bytes("only its end", w, 528, 1, 2, 0, 0, 190);
        check.same("rows that touch", w.text(4, 0), 3);
        check.bytes("rows that touch", w, 0, 1, 2, 3, 0, 1, 2, 3, 0);
        check.same("to the last byte", w.text(36, 0), 3);
        check.same("nothing was wrong", w.told(6), 0);
    }

    private static void textIsJudgedInItsOrder() {
        ShadowWard w = ward();
        write(w, 0, 1, 2, 3);
        check.same("reading", w.text(-5, 528), NONE);
        check.report("reading", w, 0, 1, 558, 1, 0, 3, 0, 1, 1, 17, 0);
        check.same("reading before a copy onto itself", w.text(530, 528), NONE);
        check.report("reading before a copy onto itself", w, 1, 1, 558, 1, 0, 3, 0, 1, 1, 17, 0);
        check.same("onto itself by its end", w.text(3, 0), NONE);
        check.report("onto itself by its end", w, 2, 13, 3, 4, 1, 1, 0, 0, 0, 0, 0);
        check.same("onto itself from below", w.text(-3, 0), NONE);
        check.report("onto itself from below", w, 3, 13, -3, 4, 1, 0, NONE, 0, 0, 0, 0);
        check.same("writing", w.text(555, 0), NONE);
        check.report("writing", w, 4, 1, 558, 4, 1, 3, 0, 1, 1, 17, 0);
        check.bytes("nothing was done", w, 555, 190, 190, 190);
        check.same("to no address", w.text(Integer.MAX_VALUE, 0), NONE);
        check.report("to no address", w, 5, 9, Integer.MAX_VALUE, 4, 1, 0, NONE, 0, 0, 0, 0);
        check.same("one report each", w.told(6), 6);
    }

    private static void compareTellsTheOrder() {
        ShadowWard w = ward();
        write(w, 0, 5, 6, 200);
        write(w, 8, 5, 6, 100);
        check.same("the same", w.compare(0, 8, 2), 0);
        check.same("greater", w.compare(0, 8, 3), 1);
        check.same("less", w.compare(8, 0, 40), -1);
        check.same("itself", w.compare(0, 0, 40), 0);
        for (int address : new int[] {-1, 50, 5000, Integer.MIN_VALUE, Integer.MAX_VALUE}) {
            check.same("nothing at " + address, w.compare(address, address, 0), 0);
        }
        check.same("nothing was wrong", w.told(6), 0);
        for (int n : new int[] {-1, 2049, Integer.MIN_VALUE, Integer.MAX_VALUE}) {
            check.illegalArgument(w, "compare of " + n, () -> w.compare(0, 0, n));
        }
    }

    private static void compareReadsInItsOrder() {
        ShadowWard w = ward();
        check.same("a first", w.compare(-1, -2, 5), 2);
        check.report("a first", w, 0, 9, -1, 1, 0, 0, NONE, 0, 0, 0, 0);
        check.same("then b", w.compare(0, 2048, 5), 2);
        check.report("then b", w, 1, 9, 2048, 1, 0, 0, NONE, 0, 0, 0, 0);
        check.same("the end of a", w.compare(38, 0, 5), 2);
        check.report("the end of a", w, 2, 7, 40, 1, 0, 1, 0, 1, 1, 0, 0);
        check.same("the end of b", w.compare(0, 37, 2048), 2);
        check.report("the end of b", w, 3, 7, 40, 1, 0, 1, 0, 1, 1, 0, 0);
        w.store(39, 1, 1);
        check.same("another byte before the end", w.compare(38, 0, 5), 1);
        check.same("nothing is read behind it", w.told(6), 4);
    }

    private static void lockTakesWholeGranules() {
        ShadowWard w = ward();
        check.same("none is whole", w.lock(1, 14), 0);
        check.same("one is", w.lock(1, 15), 1);
        check.shadows("one is", w, 0, 0, 247, 0, 0, 0, 249);
        check.same("again", w.lock(0, 16), 1);
        check.same("good ones", w.told(10), 256 + 40 - 16 + 30);
        check.same("a block's", w.lock(520, 48), 3);
        check.shadows("its last granule is not all good", w, 65, 250, 247, 247, 247, 6, 250);
        check.same("the rest of it all", w.lock(0, 2048), 3 + 32);
        check.same("good ones", w.told(10), 6);
        check.no("a locked one", w.fill(3, 3, 1));
        check.report("a locked one", w, 0, 8, 3, 3, 1, 1, 0, 0, 0, 0, 0);
        check.yes("a locked block is freed", w.free(0, 528, 3));
        check.shadows("then it is not locked", w, 65, 250, 253, 253, 253, 253, 250);
        w.enter(8, 0, 0, 0);
        check.shadows("nor is a new variable", w, 51, 247, 241, 241, 241, 241, 0, 243);
    }

    private static void unlockGivesThemBack() {
        ShadowWard w = ward();
        w.lock(0, 40);
        check.same("none is whole", w.unlock(1, 14), 0);
        check.same("one is", w.unlock(7, 9), 1);
        check.shadows("one is", w, 0, 247, 0, 247, 247, 247, 249);
        check.same("all", w.unlock(0, 2048), 4);
        check.shadows("nothing else is opened", w, 0, 0, 0, 0, 0, 0, 249);
        check.shadows("nothing else is opened", w, 64, 250, 250, 0, 0, 0, 6, 250);
        check.same("none is left", w.unlock(0, 2048), 0);
        check.yes("it is good again", w.fill(0, 40, 1));
    }

    private static void lockRefusesNumbers() {
        ShadowWard w = ward();
        w.lock(8, 8);
        for (int n : new int[] {-1, 2049, Integer.MIN_VALUE, Integer.MAX_VALUE}) {
            check.illegalArgument(w, "lock of " + n, () -> w.lock(0, n));
            check.illegalArgument(w, "unlock of " + n, () -> w.unlock(0, n));
        }
        int[][] out = {{-1, 1}, {-1, 2048}, {2048, 1}, {1, 2048}, {2047, 2}, {-8, 16},
            {Integer.MAX_VALUE, 2048}, {Integer.MIN_VALUE, 2048}, {Integer.MAX_VALUE, 1}};
        for (int[] row : out) {
            check.illegalArgument(w, "lock at " + row[0], () -> w.lock(row[0], row[1]));
            check.illegalArgument(w, "unlock at " + row[0], () -> w.unlock(row[0], row[1]));
        }
        for (int address : new int[] {-1, 2048, Integer.MIN_VALUE, Integer.MAX_VALUE}) {
            check.same("lock nothing at " + address, w.lock(address, 0), 0);
            check.same("unlock nothing at " + address, w.unlock(address, 0), 0);
        }
        check.same("the last ones are addresses", w.lock(2047, 1), 0);
        check.same("the last ones are addresses", w.unlock(2040, 8), 0);
    }

    private static void kind(ShadowWard w, int address, int due) {
        int i = w.told(6);
        check.same("load(" + address + ", 1)", w.load(address, 1), 0);
        check.same("kind at " + address, w.report(i, 0), due);
        check.same("address of the report at " + address, w.report(i, 1), address);
    }

    private static void kindsFollowTheShadow() {
        ShadowWard w = ward();
        w.global(3);
        w.enter(3, 12, 0, 0);
        int first = w.variable(0, 0);
        int second = w.variable(0, 1);
        kind(w, first - 1, 3);
        kind(w, first + 3, 4);
        kind(w, first + 8, 4);
        kind(w, second - 1, 4);
        kind(w, second + 12, 4);
        kind(w, second + 16, 4);
        kind(w, 511, 4);
        w.scope(0, 1, false);
        kind(w, second, 6);
        kind(w, second + 12, 6);
        kind(w, second + 16, 4);
        w.leave();
        kind(w, first, 5);
        kind(w, second + 12, 5);
        kind(w, 99, 7);
        kind(w, 96 + 8, 7);
        kind(w, 559, 1);
        w.lock(528, 8);
        kind(w, 528, 8);
        w.free(0, 528, 1);
        kind(w, 559, 2);
        kind(w, 560, 1);
        kind(w, 2048, 9);
        // One good byte in a granule is the least by which the next one is looked at.
        w.enter(1, 0, 0, 0);
        kind(w, w.variable(0, 0) + 1, 4);
        w.allocate(0, 9, 1);
        kind(w, w.block(1, 0) + 9, 1);
    }
}
