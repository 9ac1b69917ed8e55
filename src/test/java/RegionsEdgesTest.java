/** The boundary cases that promises 1 to 9 name: a test for each sentence, which stands above it. */
public final class RegionsEdgesTest {
    private static final Check check = new Check("RegionsEdgesTest");
    private static final int NONE = ShadowWard.NONE;
    private static final int LEAST = Integer.MIN_VALUE;
    private static final int MOST = Integer.MAX_VALUE;

    public static void main(String[] args) {
        newMemoryIsAMultipleOf64();
        newMemoryLimitsQ();
        globalTakesSizes();
        globalLiesInItsPart();
        globalWithoutAPlaceChangesNothing();
        enterSkipsSizesOf0();
        enterTakesSizes();
        enterWithoutAPlaceChangesNothing();
        leaveTellsHowManyThereAre();
        leaveWithoutAFrame();
        scopeMarksGranules();
        scopeThatIsNoOther();
        scopeIsInAtFirst();
        scopeOfWhatIsNot();
        variableOfWhatIsNot();
        allocateTakesSizes();
        allocateTakesKinds();
        allocateTakesAnySite();
        allocateWithoutAPlace();
        freeOfNone();
        freeIsReportedInItsOrder();
        freeTakesKinds();
        freeTakesAnySite();
        resizeCopiesWhatBothHave();
        resizeTakesSizes();
        resizeGivesBeforeItFrees();
        resizeWithoutAPlace();
        resizeReportsBeforeAllElse();
        resizeOfNone();
        check.finish();
    }

    private static void made(int n, int q, int dueN, int dueQ) {
        ShadowWard w = new ShadowWard(n, q);
        check.same("N of (" + n + ", " + q + ")", w.told(0), dueN);
        check.same("Q of (" + n + ", " + q + ")", w.told(1), dueQ);
        check.same("the last address of (" + n + ", " + q + ")", w.peek(dueN - 1), 0);
        check.noSuch(w, "behind it", () -> w.peek(dueN));
    }

    /** "A memory of N bytes (a multiple of 64 from 1024 to 8192; else 4096)". */
    private static void newMemoryIsAMultipleOf64() {
        made(1024, 7, 1024, 7);
        made(1088, 7, 1088, 7);
        made(8128, 7, 8128, 7);
        made(8192, 7, 8192, 7);
        for (int n : new int[] {LEAST, -1024, -64, -1, 0, 1, 64, 960, 1023, 1025, 1056, 1087, 8191, 8193, 8256, MOST,
            MOST - 63}) {
            made(n, 7, 4096, 7);
        }
    }

    /** "with Q bytes for QUARANTINE (from 0 to N; else 1024)". */
    private static void newMemoryLimitsQ() {
        made(2048, 0, 2048, 0);
        made(2048, 1, 2048, 1);
        made(2048, 2047, 2048, 2047);
        made(2048, 2048, 2048, 2048);
        for (int q : new int[] {LEAST, -1, 2049, MOST}) {
            made(2048, q, 2048, 1024);
        }
        made(1024, 1025, 1024, 1024);
        made(8192, 8192, 8192, 8192);
        // N is what the memory has, not what was asked for.
        made(0, 4096, 4096, 4096);
        made(8256, 4097, 4096, 1024);
    }

    /** "A global of a size 1 .. 512: its address ... IllegalArgumentException." */
    private static void globalTakesSizes() {
        ShadowWard w = new ShadowWard(8192, 0);
        for (int size : new int[] {LEAST, -1, 0, 513, MOST}) {
            check.illegalArgument(w, "global(" + size + ")", () -> w.global(size));
        }
        check.same("512", w.global(512), 0);
        check.same("1", w.global(1), 544);
        check.same("two of them", w.told(2), 2);
        check.yes("all of 512 is good", w.fill(0, 512, 1));
        ShadowWard full = new ShadowWard(1024, 0);
        full.global(96);
        check.illegalArgument(full, "without a place, too", () -> full.global(513));
    }

    /** "NONE, when it and 32 bytes behind it do not lie in GLOBALS". */
    private static void globalLiesInItsPart() {
        check.same("97 and 32 in 128", new ShadowWard(1024, 0).global(97), NONE);
        check.same("96 and 32 in 128", new ShadowWard(1024, 0).global(96), 0);
        check.same("105 and 32 in 136", new ShadowWard(1088, 0).global(105), NONE);
        check.same("104 and 32 in 136", new ShadowWard(1088, 0).global(104), 0);
        ShadowWard w = new ShadowWard(1024, 0);
        w.global(1);
        check.same("33 and 32 in 64", w.global(33), NONE);
        check.same("a smaller one after that", w.global(32), 64);
        check.same("no place begins", w.global(1), NONE);
        check.shadows("the last ones of the part", w, 12, 249, 249, 249, 249, 0);
    }

    /** "NONE": then nothing was made. */
    private static void globalWithoutAPlaceChangesNothing() {
        ShadowWard w = new ShadowWard(1024, 0);
        w.global(5);
        check.changesNothing(w, "no place", () -> w.global(512), NONE);
        check.same("the next one is where it would have been", w.global(5), 64);
    }

    /** "A frame with variables of these sizes, as far as they are not 0: its lowest address". */
    private static void enterSkipsSizesOf0() {
        int[][] rows = {{7, 0, 0, 0}, {0, 7, 0, 0}, {0, 0, 7, 0}, {0, 0, 0, 7}};
        for (int[] row : rows) {
            ShadowWard w = new ShadowWard(2048, 0);
            check.same("one of four", w.enter(row[0], row[1], row[2], row[3]), 512 - 96);
            check.same("it is variable 0", w.variable(0, 0), 448);
            check.noSuch(w, "there is no other", () -> w.variable(0, 1));
        }
        ShadowWard w = new ShadowWard(2048, 0);
        check.same("two of four", w.enter(0, 40, 0, 7), 512 - 192);
        check.same("variable 0", w.variable(0, 0), 352);
        check.same("variable 1", w.variable(0, 1), 448);
        check.shadows("of 7 bytes", w, 56, 7, 243);
    }

    /** "IllegalArgumentException: a size is not 0 .. 128, or all are 0." */
    private static void enterTakesSizes() {
        ShadowWard w = new ShadowWard(8192, 0);
        check.illegalArgument(w, "all are 0", () -> w.enter(0, 0, 0, 0));
        for (int size : new int[] {LEAST, -1, 129, MOST}) {
            check.illegalArgument(w, "a is " + size, () -> w.enter(size, 1, 1, 1));
            check.illegalArgument(w, "b is " + size, () -> w.enter(1, size, 1, 1));
            check.illegalArgument(w, "c is " + size, () -> w.enter(1, 1, size, 1));
            check.illegalArgument(w, "d is " + size, () -> w.enter(1, 1, 1, size));
            check.illegalArgument(w, "all else is 0", () -> w.enter(0, 0, 0, size));
        }
        check.same("128", w.enter(128, 0, 0, 0), 2048 - 192);
        check.same("1", w.enter(0, 0, 0, 1), 1856 - 96);
        check.same("two frames", w.told(3), 2);
    }

    /** "NONE, when it does not lie in the STACK". */
    private static void enterWithoutAPlaceChangesNothing() {
        ShadowWard w = new ShadowWard(1024, 0);
        check.changesNothing(w, "160 bytes in 128", () -> w.enter(65, 0, 0, 0), NONE);
        check.same("128 bytes in 128", w.enter(64, 0, 0, 0), 128);
        check.changesNothing(w, "nothing is left", () -> w.enter(1, 0, 0, 0), NONE);
        check.same("leave", w.leave(), 0);
        check.same("96 bytes", w.enter(1, 0, 0, 0), 160);
        check.changesNothing(w, "96 bytes in 32", () -> w.enter(1, 0, 0, 0), NONE);
        ShadowWard odd = new ShadowWard(1088, 0);
        check.same("128 bytes in 136", odd.enter(64, 0, 0, 0), 144);
        ShadowWard two = new ShadowWard(2048, 0);
        check.same("160 of 256", two.enter(1, 1, 0, 0), 352);
        check.same("128 in 96", two.enter(33, 0, 0, 0), NONE);
        check.same("96 in 96", two.enter(32, 0, 0, 0), 256);
    }

    /** "The innermost frame is left: how many there are then." */
    private static void leaveTellsHowManyThereAre() {
        ShadowWard w = new ShadowWard(8192, 0);
        for (int f = 0; f < 10; f++) {
            check.same("frame " + f, w.enter(1, 0, 0, 0), 2048 - 96 * (f + 1));
        }
        check.same("frame 10 has no place", w.enter(1, 0, 0, 0), NONE);
        for (int f = 9; f >= 0; f--) {
            check.same("frame " + f + " is left", w.leave(), f);
            check.same("frames", w.told(3), f);
            check.same("its variable", w.shadow((2048 - 96 * (f + 1) + 32) / 8), 245);
            if (f > 0) {
                check.same("that of the one before", w.shadow((2048 - 96 * f + 32) / 8), 1);
            }
        }
    }

    /** "IllegalStateException: there is no frame". */
    private static void leaveWithoutAFrame() {
        ShadowWard w = new ShadowWard(1024, 0);
        check.illegalState(w, "at first", () -> w.leave());
        w.enter(128, 128, 128, 128);
        check.illegalState(w, "one that had no place", () -> w.leave());
        w.enter(1, 0, 0, 0);
        w.leave();
        check.illegalState(w, "when all are left", () -> w.leave());
        check.same("it can be entered again", w.enter(1, 0, 0, 0), 160);
        check.same("and left", w.leave(), 0);
    }

    /** "A variable of a frame (both from 0) gets out of scope: the granules that it begins in get 248; or into it
     *  again: it is opened." */
    private static void scopeMarksGranules() {
        for (int size = 1; size <= 33; size++) {
            ShadowWard w = new ShadowWard(2048, 0);
            w.enter(1, size, 0, 0);
            int first = w.variable(0, 1) / 8;
            int granules = (size + 7) / 8;
            check.yes("out", w.scope(0, 1, false));
            for (int g = -1; g <= granules; g++) {
                int due = g < 0 ? 242 : g < granules ? 248 : 243;
                check.same("out, size " + size + ", granule " + g, w.shadow(first + g), due);
            }
            check.same("the other one stays", w.shadow(first - 8), 1);
            check.yes("in", w.scope(0, 1, true));
            for (int g = -1; g <= granules; g++) {
                int open = g == granules - 1 ? size % 8 : 0;
                check.same("in, size " + size + ", granule " + g, w.shadow(first + g),
                    g < 0 ? 242 : g < granules ? open : 243);
            }
        }
        ShadowWard both = new ShadowWard(2048, 0);
        both.enter(1, 0, 0, 0);
        both.enter(1, 0, 0, 0);
        check.yes("of frame 1", both.scope(1, 0, false));
        check.shadows("of frame 1", both, 44, 248, 243);
        check.shadows("not of frame 0", both, 56, 1, 243);
    }

    /** "Whether that is another thing than before; if not, nothing is changed." */
    private static void scopeThatIsNoOther() {
        ShadowWard w = new ShadowWard(2048, 0);
        w.enter(16, 0, 0, 0);
        w.lock(448, 8);
        check.changesNothing(w, "in, with a lock", () -> Check.bit(w.scope(0, 0, true)), 0);
        check.yes("out", w.scope(0, 0, false));
        check.shadows("out", w, 56, 248, 248);
        check.changesNothing(w, "out again", () -> Check.bit(w.scope(0, 0, false)), 0);
        check.yes("in", w.scope(0, 0, true));
        check.shadows("in: the lock is gone", w, 56, 0, 0);
        check.changesNothing(w, "in again", () -> Check.bit(w.scope(0, 0, true)), 0);
    }

    /** "At first it is in scope." */
    private static void scopeIsInAtFirst() {
        ShadowWard w = new ShadowWard(2048, 0);
        w.enter(1, 1, 1, 0);
        for (int v = 0; v < 3; v++) {
            int number = v;
            check.changesNothing(w, "variable " + v, () -> Check.bit(w.scope(0, number, true)), 0);
            check.yes("out of it", w.scope(0, v, false));
        }
        w.leave();
        w.enter(1, 1, 1, 0);
        check.no("so in a frame at the same place", w.scope(0, 0, true));
        check.yes("good", w.store(w.variable(0, 0), 1, 1));
    }

    /** "IndexOutOfBoundsException" of scope: no such frame, no such variable. */
    private static void scopeOfWhatIsNot() {
        ShadowWard w = new ShadowWard(2048, 0);
        check.noSuch(w, "no frame", () -> Check.bit(w.scope(0, 0, true)));
        w.enter(1, 0, 1, 0);
        for (int i : new int[] {LEAST, -1, 2, 3, MOST}) {
            check.noSuch(w, "scope(0, " + i + ")", () -> Check.bit(w.scope(0, i, false)));
            check.noSuch(w, "scope(0, " + i + "), in", () -> Check.bit(w.scope(0, i, true)));
        }
        for (int i : new int[] {LEAST, -1, 1, MOST}) {
            check.noSuch(w, "scope(" + i + ", 0)", () -> Check.bit(w.scope(i, 0, false)));
        }
        check.yes("the last one", w.scope(0, 1, false));
        w.leave();
        check.noSuch(w, "a frame that was left", () -> Check.bit(w.scope(0, 0, false)));
    }

    /** "IndexOutOfBoundsException" of variable: no such frame, no such variable. */
    private static void variableOfWhatIsNot() {
        ShadowWard w = new ShadowWard(2048, 0);
        check.noSuch(w, "no frame", () -> w.variable(0, 0));
        w.enter(1, 0, 1, 0);
        for (int i : new int[] {LEAST, -1, 2, 3, MOST}) {
            check.noSuch(w, "variable(0, " + i + ")", () -> w.variable(0, i));
        }
        for (int i : new int[] {LEAST, -1, 1, MOST}) {
            check.noSuch(w, "variable(" + i + ", 0)", () -> w.variable(i, 0));
        }
        check.same("the first one", w.variable(0, 0), 384);
        check.same("the last one", w.variable(0, 1), 448);
        w.scope(0, 1, false);
        check.same("out of scope", w.variable(0, 1), 448);
        w.leave();
        check.noSuch(w, "a frame that was left", () -> w.variable(0, 0));
    }

    /** "A block of a kind and a size (0 .. N) ... IllegalArgumentException." */
    private static void allocateTakesSizes() {
        ShadowWard w = new ShadowWard(1024, 0);
        for (int size : new int[] {LEAST, -1, 1025, MOST}) {
            check.illegalArgument(w, "size " + size, () -> w.allocate(0, size, 0));
        }
        check.same("0", w.allocate(0, 0, 0), 272);
        check.same("N is not refused", w.allocate(0, 1024, 0), NONE);
        ShadowWard great = new ShadowWard(8192, 0);
        check.same("more than another N", great.allocate(0, 4097, 0), 2048 + 128);
        check.illegalArgument(great, "N and 1", () -> great.allocate(0, 8193, 0));
    }

    /** "with a KIND 0, 1, 2". */
    private static void allocateTakesKinds() {
        ShadowWard w = new ShadowWard(1024, 0);
        for (int kind : new int[] {LEAST, -1, 3, MOST}) {
            check.illegalArgument(w, "kind " + kind, () -> w.allocate(kind, 1, 0));
        }
        for (int kind = 0; kind <= 2; kind++) {
            check.same("kind " + kind, w.allocate(kind, 1, 0), 272 + 48 * kind);
            check.same("its kind", w.block(kind, 2), kind);
        }
    }

    /** "at a SITE (any number)". */
    private static void allocateTakesAnySite() {
        ShadowWard w = new ShadowWard(1024, 0);
        int[] sites = {LEAST, -1, 0, 1, MOST};
        for (int b = 0; b < sites.length; b++) {
            w.allocate(0, 1, sites[b]);
            check.same("site", w.block(b, 6), sites[b]);
        }
    }

    /** "NONE, when there is no place for it (QUARANTINE is empty then)". */
    private static void allocateWithoutAPlace() {
        ShadowWard w = new ShadowWard(1024, 1024);
        w.allocate(0, 16, 1);
        w.allocate(0, 16, 2);
        w.free(0, 272, 3);
        check.same("one byte too many", w.allocate(0, 593, 4), NONE);
        check.same("quarantine is empty", w.told(7), 0);
        check.same("its bytes", w.told(8), 0);
        check.same("gone", w.block(0, 3), 2);
        check.same("no block was given", w.told(4), 2);
        check.same("one is live", w.told(5), 1);
        check.same("nothing is reported", w.told(6), 0);
        check.changesNothing(w, "again", () -> w.allocate(0, 593, 4), NONE);
        check.same("one less", w.allocate(0, 592, 4), 352 + 64);
    }

    /** "False: the address is NONE (nothing is done)". */
    private static void freeOfNone() {
        ShadowWard w = new ShadowWard(1024, 100);
        check.changesNothing(w, "without blocks", () -> Check.bit(w.free(0, NONE, 5)), 0);
        w.allocate(0, 16, 1);
        w.allocate(0, 16, 1);
        w.free(0, 272, 2);
        for (int kind = 0; kind <= 2; kind++) {
            int ofKind = kind;
            check.changesNothing(w, "kind " + kind, () -> Check.bit(w.free(ofKind, NONE, 5)), 0);
        }
        check.no("-2 is not NONE", w.free(0, -2, 5));
        check.report("-2 is not NONE", w, 0, 11, -2, 0, 1, 0, NONE, 0, 0, 0, 0);
    }

    /** "or a report of the address: 12, if a live block is there, of another kind; else 10, if one in QUARANTINE
     *  is; else 11". */
    private static void freeIsReportedInItsOrder() {
        ShadowWard w = new ShadowWard(1024, 48);
        w.allocate(2, 16, 7);
        int[][] rows = {{0, 272, 12}, {1, 272, 12}, {2, 271, 11}, {2, 273, 11}, {0, 288, 11}, {2, 256, 11},
            {2, 0, 11}, {2, 128, 11}, {2, 1023, 11}, {2, 1024, 11}, {2, LEAST, 11}, {2, MOST, 11}};
        for (int i = 0; i < rows.length; i++) {
            check.no("free at " + rows[i][1], w.free(rows[i][0], rows[i][1], 9));
            check.report("free at " + rows[i][1], w, i, rows[i][2], rows[i][1], 0, 1);
        }
        check.block("it stays", w, 0, 272, 16, 2, 0, 256, 48, 7, 0);
        check.yes("by its kind", w.free(2, 272, 8));
        for (int kind = 0; kind <= 2; kind++) {
            check.no("in quarantine, by " + kind, w.free(kind, 272, 9));
            check.report("in quarantine", w, w.told(6) - 1, 10, 272, 0, 1, 3, 0, 0, 0, 7, 8);
        }
        check.block("it stays", w, 0, 272, 16, 2, 1, 256, 48, 7, 8);
        check.same("it is held once", w.told(7), 1);
        w.allocate(0, 1024, 0);
        check.no("gone", w.free(2, 272, 9));
        check.report("gone", w, w.told(6) - 1, 11, 272, 0, 1, 0, NONE, 0, 0, 0, 0);
        ShadowWard again = new ShadowWard(1024, 0);
        again.allocate(2, 16, 0);
        again.free(2, 272, 0);
        again.allocate(1, 16, 0);
        check.no("a live one is where one is gone", again.free(2, 272, 0));
        check.report("a live one is where one is gone", again, 0, 12, 272, 0, 1, 3, 1, 0, 0, 0, 0);
        check.yes("by the kind of the live one", again.free(1, 272, 0));
    }

    /** "IllegalArgumentException: the kind." */
    private static void freeTakesKinds() {
        ShadowWard w = new ShadowWard(1024, 0);
        w.allocate(0, 1, 0);
        for (int kind : new int[] {LEAST, -1, 3, MOST}) {
            check.illegalArgument(w, "a block", () -> Check.bit(w.free(kind, 272, 0)));
            check.illegalArgument(w, "NONE", () -> Check.bit(w.free(kind, NONE, 0)));
            check.illegalArgument(w, "no block", () -> Check.bit(w.free(kind, 5, 0)));
        }
    }

    /** "is freed, at a site: true": any number, as that of allocate. */
    private static void freeTakesAnySite() {
        int[] sites = {LEAST, -1, 0, 1, MOST};
        ShadowWard w = new ShadowWard(1024, 1024);
        for (int b = 0; b < sites.length; b++) {
            w.allocate(0, 1, 77);
            check.same("not freed", w.block(b, 7), 0);
            check.yes("free", w.free(0, 272 + 48 * b, sites[b]));
            check.same("site", w.block(b, 7), sites[b]);
        }
    }

    private static ShadowWard withABlock(int size) {
        ShadowWard w = new ShadowWard(2048, 2048);
        check.same("block", w.allocate(0, size, 1), 528);
        for (int i = 0; i < size; i++) {
            w.store(528 + i, 1, 1 + i);
        }
        return w;
    }

    /** "a new one of kind 0 is given, so many of its first bytes become those of the old one as both have, and
     *  the old one is freed: its address". */
    private static void resizeCopiesWhatBothHave() {
        int[][] rows = {{10, 11}, {10, 10}, {10, 9}, {10, 1}, {10, 0}, {0, 10}, {0, 0}, {1, 20}, {16, 17}, {64, 65}};
        for (int[] row : rows) {
            String what = "from " + row[0] + " to " + row[1];
            ShadowWard w = withABlock(row[0]);
            int at = w.resize(528, row[1], 2);
            check.same(what, at, w.block(1, 0));
            int both = Math.min(row[0], row[1]);
            for (int i = 0; i < row[1]; i++) {
                check.same(what + ", byte " + i, w.peek(at + i), i < both ? 1 + i : 190);
            }
            check.same(what + ", behind it", w.peek(at + row[1]), 0);
            check.same(what + ", before it", w.peek(at - 1), 0);
            check.same(what + ", the old one", w.block(0, 3), 1);
            check.same(what + ", freed at", w.block(0, 7), 2);
            check.same(what + ", the new one", w.block(1, 3), 0);
            check.same(what + ", its size", w.block(1, 1), row[1]);
            check.same(what + ", its kind", w.block(1, 2), 0);
            check.same(what + ", given at", w.block(1, 6), 2);
            check.same(what + ", freed at", w.block(1, 7), 0);
            check.same(what + ", nothing is reported", w.told(6), 0);
        }
        ShadowWard locked = withABlock(8);
        locked.lock(528, 8);
        check.same("a lock does not hinder it", locked.resize(528, 8, 2), 576);
        check.same("the bytes", locked.load(576, 8), 0x0807060504030201L);
        check.same("nothing is reported", locked.told(6), 0);
    }

    /** "gets another size (0 .. N) ... IllegalArgumentException: the size." */
    private static void resizeTakesSizes() {
        ShadowWard w = withABlock(8);
        for (int size : new int[] {LEAST, -1, 2049, MOST}) {
            check.illegalArgument(w, "size " + size, () -> w.resize(528, size, 0));
            check.illegalArgument(w, "size " + size + ", NONE", () -> w.resize(NONE, size, 0));
            check.illegalArgument(w, "size " + size + ", no block", () -> w.resize(5, size, 0));
        }
        check.same("N is not refused", w.resize(528, 2048, 0), NONE);
        check.same("nor is 0", w.resize(528, 0, 0), 576);
    }

    /** "a new one of kind 0 is given ... and the old one is freed": in this order. */
    private static void resizeGivesBeforeItFrees() {
        ShadowWard w = new ShadowWard(1024, 0);
        w.allocate(0, 16, 1);
        check.same("not at the old one's place", w.resize(272, 8, 2), 320);
        check.same("though that is gone then", w.block(0, 3), 2);
        check.same("now it is free", w.resize(320, 8, 3), 272);
        ShadowWard full = new ShadowWard(1024, 1024);
        full.allocate(0, 16, 1);
        full.allocate(0, 16, 1);
        full.allocate(0, 592, 1);
        full.free(0, 272, 2);
        check.same("the oldest leaves for the new one", full.resize(320, 16, 3), 272);
        check.same("the old one is held", full.held(0), 1);
        check.same("alone", full.told(7), 1);
        ShadowWard over = new ShadowWard(1024, 96);
        over.allocate(0, 16, 1);
        over.allocate(0, 16, 1);
        over.allocate(0, 32, 1);
        over.free(0, 272, 2);
        over.resize(352 + 16, 1, 2);
        check.same("more than Q: the oldest leaves", over.told(7), 1);
        check.same("the old one stays", over.held(0), 2);
    }

    /** "NONE: there is no place (the old one stays, QUARANTINE is empty)". */
    private static void resizeWithoutAPlace() {
        ShadowWard w = new ShadowWard(1024, 1024);
        w.allocate(0, 16, 1);
        w.allocate(0, 16, 2);
        w.free(0, 272, 3);
        w.store(320, 8, 99);
        check.same("no place", w.resize(320, 593, 4), NONE);
        check.same("quarantine is empty", w.told(7), 0);
        check.block("the old one stays", w, 1, 320, 16, 0, 0, 304, 48, 2, 0);
        check.same("with its bytes", w.load(320, 8), 99);
        check.same("nothing is reported", w.told(6), 0);
        check.same("nor given", w.told(4), 2);
        check.changesNothing(w, "again", () -> w.resize(320, 593, 4), NONE);
        ShadowWard own = new ShadowWard(1024, 1024);
        own.allocate(0, 300, 1);
        check.same("only with its own place", own.resize(320, 305, 1), NONE);
        check.same("384 bytes are left", own.resize(320, 304, 1), 640 + 64);
    }

    /** "or what is at the address is reported as by free(0, ..), before all else". */
    private static void resizeReportsBeforeAllElse() {
        ShadowWard w = new ShadowWard(1024, 1024);
        w.allocate(1, 16, 1);
        w.allocate(2, 16, 2);
        w.allocate(0, 16, 3);
        w.free(0, 368, 4);
        int[][] rows = {{272, 12, 0}, {320, 12, 1}, {368, 10, 2}};
        for (int[] row : rows) {
            check.same("resize at " + row[0], w.resize(row[0], 1024, 5), NONE);
            check.report("resize at " + row[0], w, w.told(6) - 1, row[1], row[0], 0, 1, 3, row[2], 0, 0);
        }
        for (int address : new int[] {271, 273, 0, 1024, -2, LEAST, MOST}) {
            check.same("resize at " + address, w.resize(address, 1024, 5), NONE);
            check.report("resize at " + address, w, w.told(6) - 1, 11, address, 0, 1);
        }
        check.same("no place was sought: one is held", w.told(7), 1);
        check.same("none was given", w.told(4), 3);
        check.same("nor freed", w.block(0, 3), 0);
    }

    /** "With the address NONE it is allocate(0, ..)." */
    private static void resizeOfNone() {
        ShadowWard w = new ShadowWard(1024, 1024);
        check.same("a block", w.resize(NONE, 13, -4), 272);
        check.block("a block", w, 0, 272, 13, 0, 0, 256, 48, -4, 0);
        check.bytes("its bytes", w, 271, 0, 190, 190);
        check.same("of no bytes", w.resize(NONE, 0, 0), 320);
        w.free(0, 272, 0);
        check.same("no place", w.resize(NONE, 1024, 0), NONE);
        check.same("quarantine is empty then", w.told(7), 0);
        check.same("nothing is reported", w.told(6), 0);
    }
}
