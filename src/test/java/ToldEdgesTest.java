/** The boundary cases that promises 19 to 25 name: a test for each sentence, which stands above it. */
public final class ToldEdgesTest {
    private static final Check check = new Check("ToldEdgesTest");
    private static final int NONE = ShadowWard.NONE;
    private static final int LEAST = Integer.MIN_VALUE;
    private static final int MOST = Integer.MAX_VALUE;

    public static void main(String[] args) {
        reportsAreNumberedFrom0();
        reportTellsHowManyBytes();
        reportTellsWhetherItWasToWrite();
        reportTellsTheNumberOfAVariable();
        reportWithoutARegion();
        reportTellsWhere();
        reportTellsSites();
        reportOfWhatIsNot();
        reportOfAnotherWhat();
        blockTellsItsState();
        blockTellsItsSites();
        blockOfWhatIsNot();
        blockOfAnotherWhat();
        shadowOfNoGranule();
        peekTellsBytesAsTheyAre();
        peekOfNoAddress();
        heldTellsTheOldestFirst();
        heldOfWhatIsNot();
        lostTellsTheFirstFromANumberOn();
        lostTellsNone();
        toldOfEachWhat();
        toldCountsChunks();
        toldCountsGoodAddresses();
        toldOfAnotherWhat();
        check.finish();
    }

    private static void report(ShadowWard w, String what, int... due) {
        check.report(what, w, w.told(6) - 1, due);
    }

    private static void answer(ShadowWard w, String call, int what, int due) {
        check.same(call + ": report(.., " + what + ")", w.report(w.told(6) - 1, what), due);
    }

    /** A ward with a global of 16 bytes at 0, of which the first three are not 0, and a block of kind 1 and 16
     *  bytes at 272. */
    private static ShadowWard ward() {
        ShadowWard w = new ShadowWard(1024, 100);
        check.same("global", w.global(16), 0);
        check.same("block", w.allocate(1, 16, 7), 272);
        check.yes("fill", w.fill(0, 3, 9));
        return w;
    }

    /** "Of report i, from 0". */
    private static void reportsAreNumberedFrom0() {
        ShadowWard w = ward();
        for (int i = 0; i < 20; i++) {
            w.load(-100 - i, 1);
            check.same("reports", w.told(6), i + 1);
        }
        for (int i = 0; i < 20; i++) {
            check.same("report " + i, w.report(i, 1), -100 - i);
        }
    }

    /** "how many bytes the access had (2; of kinds 10 to 12 0; of length(), compare() and what text() reads 1; of
     *  what text() writes, and its kind 13, its length and 1 more)". */
    private static void reportTellsHowManyBytes() {
        ShadowWard w = ward();
        w.load(15, 8);
        answer(w, "load", 2, 8);
        w.load(16, 1);
        answer(w, "load", 2, 1);
        w.store(15, 3, 0);
        answer(w, "store", 2, 3);
        w.fill(15, 1024, 0);
        answer(w, "fill", 2, 1024);
        w.copy(128, 12, 100, false);
        answer(w, "copy, read", 2, 100);
        w.copy(280, 0, 11, false);
        answer(w, "copy, written", 2, 11);
        w.copy(128, 128, 12, false);
        answer(w, "copy onto itself", 2, 12);
        w.length(272);
        answer(w, "length", 2, 1);
        w.compare(14, 4, 9);
        answer(w, "compare, a", 2, 1);
        w.compare(4, 14, 9);
        answer(w, "compare, b", 2, 1);
        w.text(128, 272);
        answer(w, "text, read", 2, 1);
        w.text(286, 0);
        answer(w, "text, written", 2, 4);
        w.text(286, 3);
        check.bytes("an empty text is written", w, 286, 0);
        w.text(288, 3);
        answer(w, "an empty text, written", 2, 1);
        w.text(1, 0);
        answer(w, "text onto itself", 2, 4);
        w.free(0, 272, 0);
        report(w, "another kind", 12, 272, 0);
        w.free(0, 273, 0);
        report(w, "no block", 11, 273, 0);
        w.resize(272, 5, 0);
        report(w, "resize of another kind", 12, 272, 0);
        w.free(1, 272, 0);
        w.free(1, 272, 0);
        report(w, "in quarantine", 10, 272, 0);
    }

    /** "whether it was to write (3: 1 or 0; of kinds 10 to 13 1)". */
    private static void reportTellsWhetherItWasToWrite() {
        ShadowWard w = ward();
        w.load(16, 1);
        answer(w, "load", 3, 0);
        w.store(16, 1, 0);
        answer(w, "store", 3, 1);
        w.fill(16, 1, 0);
        answer(w, "fill", 3, 1);
        w.copy(128, 12, 8, false);
        answer(w, "copy, read", 3, 0);
        w.copy(12, 128, 8, false);
        answer(w, "copy, written", 3, 1);
        w.copy(128, 128, 8, false);
        report(w, "copy onto itself", 13, 128, 8, 1);
        w.length(16);
        answer(w, "length", 3, 0);
        w.text(128, 16);
        answer(w, "text, read", 3, 0);
        w.text(16, 0);
        answer(w, "text, written", 3, 1);
        w.text(0, 0);
        report(w, "text onto itself", 13, 0, 4, 1);
        w.compare(16, 0, 1);
        answer(w, "compare", 3, 0);
        w.free(0, 272, 0);
        report(w, "another kind", 12, 272, 0, 1);
        w.free(0, 5, 0);
        report(w, "no block", 11, 5, 0, 1);
        w.free(1, 272, 0);
        w.resize(272, 5, 0);
        report(w, "in quarantine", 10, 272, 0, 1);
    }

    /** "its number (5; of a variable 4 times the frame's and its own; NONE)". */
    private static void reportTellsTheNumberOfAVariable() {
        ShadowWard w = new ShadowWard(8192, 0);
        w.enter(1, 1, 1, 1);
        w.enter(0, 1, 0, 1);
        w.enter(1, 0, 0, 0);
        int[] counts = {4, 2, 1};
        for (int f = 0; f < 3; f++) {
            for (int v = 0; v < counts[f]; v++) {
                w.load(w.variable(f, v) + 1, 1);
                report(w, "variable " + v + " of frame " + f, 4, w.variable(f, v) + 1, 1, 0, 2, 4 * f + v, 1, 1, 0, 0);
            }
        }
        w.global(1);
        w.global(1);
        w.load(65, 1);
        report(w, "global 1", 7, 65, 1, 0, 1, 1, 1, 1, 0, 0);
        w.load(1, 1);
        report(w, "global 0", 7, 1, 1, 0, 1, 0, 1, 1, 0, 0);
    }

    /** "without a region 0, NONE, 0, 0". */
    private static void reportWithoutARegion() {
        ShadowWard w = new ShadowWard(1024, 0);
        for (int address : new int[] {LEAST, -1, 0, 127, 256, 1023, 1024, MOST}) {
            check.same("load", w.load(address, 1), 0);
            check.same("kind", w.report(w.told(6) - 1, 0), address == 0 || address == 127 ? 7
                : address == 256 || address == 1023 ? 1 : 9);
            report(w, "at " + address, w.report(w.told(6) - 1, 0), address, 1, 0, 0, NONE, 0, 0, 0, 0);
        }
        w.lock(128, 8);
        w.load(130, 1);
        report(w, "the stack without frames", 8, 130, 1, 0, 0, NONE, 0, 0, 0, 0);
    }

    /** "how FAR (6), where: 0 it is one of its bytes, 1 behind, 2 before (7)". */
    private static void reportTellsWhere() {
        ShadowWard w = ward();
        w.lock(0, 16);
        int[][] rows = {{0, 0, 0}, {15, 0, 0}, {16, 1, 1}, {17, 2, 1}, {127, 112, 1}, {256, 16, 2}, {271, 1, 2},
            {288, 1, 1}, {289, 2, 1}, {1023, 736, 1}};
        for (int[] row : rows) {
            w.load(row[0], 1);
            check.same("address", w.report(w.told(6) - 1, 1), row[0]);
            answer(w, "at " + row[0], 6, row[1]);
            answer(w, "at " + row[0], 7, row[2]);
        }
        w.free(1, 272, 0);
        w.load(272, 1);
        report(w, "the first byte of a freed one", 2, 272, 1, 0, 3, 0, 0, 0);
        w.load(287, 1);
        report(w, "the last byte of a freed one", 2, 287, 1, 0, 3, 0, 0, 0);
    }

    /** "of a block the site where it was given (8), freed (9), 0 for others and when it was not". */
    private static void reportTellsSites() {
        ShadowWard w = new ShadowWard(1024, 1024);
        w.global(8);
        w.enter(8, 0, 0, 0);
        int[] sites = {LEAST, -1, 0, 5, MOST};
        for (int b = 0; b < sites.length; b++) {
            int at = w.allocate(0, 8, sites[b]);
            w.load(at + 8, 1);
            answer(w, "given at " + sites[b], 8, sites[b]);
            answer(w, "not freed", 9, 0);
        }
        for (int b = 0; b < sites.length; b++) {
            int at = w.block(b, 0);
            w.free(0, at, sites[sites.length - 1 - b]);
            w.load(at, 1);
            answer(w, "given at " + sites[b], 8, sites[b]);
            answer(w, "freed", 9, sites[sites.length - 1 - b]);
        }
        w.load(8, 1);
        report(w, "a global", 7, 8, 1, 0, 1, 0, 1, 1, 0, 0);
        w.load(200, 1);
        report(w, "a variable", 4, 200, 1, 0, 2, 0, 1, 1, 0, 0);
    }

    /** "IndexOutOfBoundsException" of report: there is no such one. */
    private static void reportOfWhatIsNot() {
        ShadowWard w = ward();
        check.noSuch(w, "none at first", () -> w.report(0, 0));
        w.load(-1, 1);
        w.load(-2, 1);
        for (int i : new int[] {LEAST, -1, 2, 3, MOST}) {
            check.noSuch(w, "report " + i, () -> w.report(i, 0));
            check.noSuch(w, "report " + i + ", another what", () -> w.report(i, 10));
        }
        check.same("the last one", w.report(1, 1), -2);
    }

    /** "IllegalArgumentException: another what" of report. */
    private static void reportOfAnotherWhat() {
        ShadowWard w = ward();
        w.load(-1, 1);
        for (int what : new int[] {LEAST, -1, 10, 11, MOST}) {
            check.illegalArgument(w, "what " + what, () -> w.report(0, what));
        }
        int[] due = {9, -1, 1, 0, 0, NONE, 0, 0, 0, 0};
        for (int what = 0; what <= 9; what++) {
            check.same("what " + what, w.report(0, what), due[what]);
        }
    }

    /** "0 LIVE, 1 in QUARANTINE, 2 GONE (3)": and all else stays as it was. */
    private static void blockTellsItsState() {
        ShadowWard w = new ShadowWard(1024, 48);
        w.allocate(2, 0, 5);
        check.block("live", w, 0, 272, 0, 2, 0, 256, 32, 5, 0);
        w.free(2, 272, 6);
        check.block("in quarantine", w, 0, 272, 0, 2, 1, 256, 32, 5, 6);
        w.allocate(1, 65, 7);
        w.free(1, 320, 8);
        check.block("gone", w, 0, 272, 0, 2, 2, 256, 32, 5, 6);
        check.block("gone at once", w, 1, 320, 65, 1, 2, 288, 128, 7, 8);
        w.allocate(0, 16, 9);
        check.block("another one at its place", w, 2, 272, 16, 0, 0, 256, 48, 9, 0);
        check.block("does not change it", w, 0, 272, 0, 2, 2, 256, 32, 5, 6);
    }

    /** "the sites where it was given (6), freed (7; 0 when it was not)". */
    private static void blockTellsItsSites() {
        ShadowWard w = new ShadowWard(1024, 1024);
        w.allocate(0, 1, MOST);
        check.same("given", w.block(0, 6), MOST);
        check.same("not freed", w.block(0, 7), 0);
        w.free(1, 272, 3);
        check.same("not freed by another kind", w.block(0, 7), 0);
        w.free(0, 272, LEAST);
        check.same("freed", w.block(0, 7), LEAST);
        w.free(0, 272, 4);
        check.same("freed but once", w.block(0, 7), LEAST);
        check.same("given", w.block(0, 6), MOST);
    }

    /** "IndexOutOfBoundsException" of block: there is no such region. */
    private static void blockOfWhatIsNot() {
        ShadowWard w = new ShadowWard(1024, 0);
        check.noSuch(w, "none at first", () -> w.block(0, 0));
        w.allocate(0, 1, 0);
        w.allocate(0, 1024, 0);
        for (int i : new int[] {LEAST, -1, 1, 2, MOST}) {
            check.noSuch(w, "block " + i, () -> w.block(i, 0));
            check.noSuch(w, "block " + i + ", another what", () -> w.block(i, 8));
        }
        w.free(0, 272, 0);
        check.same("one that is gone is one", w.block(0, 3), 2);
    }

    /** "IllegalArgumentException: another what" of block. */
    private static void blockOfAnotherWhat() {
        ShadowWard w = ward();
        for (int what : new int[] {LEAST, -1, 8, 9, MOST}) {
            check.illegalArgument(w, "what " + what, () -> w.block(0, what));
        }
        check.block("each what", w, 0, 272, 16, 1, 0, 256, 48, 7, 0);
    }

    /** "The shadow of a granule. IndexOutOfBoundsException." */
    private static void shadowOfNoGranule() {
        for (int n : new int[] {1024, 1088, 8192}) {
            ShadowWard w = new ShadowWard(n, 0);
            check.same("the first one", w.shadow(0), 249);
            check.same("the last one", w.shadow(n / 8 - 1), 250);
            for (int g : new int[] {LEAST, -1, n / 8, n / 8 + 1, n, MOST}) {
                check.noSuch(w, "shadow(" + g + ")", () -> w.shadow(g));
            }
        }
    }

    /** "A byte, as it is (nothing is reported)." */
    private static void peekTellsBytesAsTheyAre() {
        ShadowWard w = ward();
        check.changesNothing(w, "about a global", () -> w.peek(16), 0);
        check.changesNothing(w, "a block's", () -> w.peek(272), 190);
        w.store(287, 1, 255);
        w.free(1, 272, 0);
        check.changesNothing(w, "freed", () -> w.peek(287), 255);
        w.allocate(0, 1024, 0);
        check.changesNothing(w, "gone", () -> w.peek(287), 255);
        w.lock(0, 8);
        check.changesNothing(w, "locked", () -> w.peek(2), 9);
        check.same("nothing is reported", w.told(6), 0);
    }

    /** "IndexOutOfBoundsException: no address" of peek. */
    private static void peekOfNoAddress() {
        for (int n : new int[] {1024, 1088, 8192}) {
            ShadowWard w = new ShadowWard(n, 0);
            check.same("the first one", w.peek(0), 0);
            check.same("the last one", w.peek(n - 1), 0);
            for (int a : new int[] {LEAST, -1, n, n + 1, MOST}) {
                check.noSuch(w, "peek(" + a + ")", () -> w.peek(a));
            }
        }
    }

    /** "Block i, from 0, of QUARANTINE, the oldest first." */
    private static void heldTellsTheOldestFirst() {
        ShadowWard w = new ShadowWard(1024, 144);
        for (int b = 0; b < 6; b++) {
            w.allocate(0, 1, 0);
        }
        int[] order = {4, 0, 5, 2, 1};
        for (int k = 0; k < order.length; k++) {
            w.free(0, 272 + 48 * order[k], 0);
            int first = Math.max(0, k - 2);
            check.same("held", w.told(7), k - first + 1);
            for (int i = first; i <= k; i++) {
                check.same("held(" + (i - first) + ")", w.held(i - first), order[i]);
            }
        }
    }

    /** "IndexOutOfBoundsException" of held. */
    private static void heldOfWhatIsNot() {
        ShadowWard w = new ShadowWard(1024, 96);
        check.noSuch(w, "none at first", () -> w.held(0));
        w.allocate(0, 1, 0);
        w.allocate(0, 1, 0);
        check.noSuch(w, "none is freed", () -> w.held(0));
        w.free(0, 272, 0);
        w.free(0, 320, 0);
        for (int i : new int[] {LEAST, -1, 2, 3, MOST}) {
            check.noSuch(w, "held(" + i + ")", () -> w.held(i));
        }
        check.same("the last one", w.held(1), 1);
        w.allocate(0, 1024, 0);
        check.noSuch(w, "when all have left", () -> w.held(0));
    }

    /** "Lost blocks, or those that are lost alone, of numbers not below one: the first". */
    private static void lostTellsTheFirstFromANumberOn() {
        ShadowWard w = new ShadowWard(1024, 0);
        w.global(8);
        for (int b = 0; b < 6; b++) {
            w.allocate(0, 16, 0);
        }
        // 0 is found; 1 leads to 2; 3 is gone; 4 is found; 5 leads nowhere.
        w.store(0, 4, 272);
        w.store(320, 4, 368);
        w.free(0, 416, 0);
        w.store(4, 4, 464);
        int[] lost = {1, 1, 2, 5, 5, 5, NONE};
        int[] alone = {1, 1, 5, 5, 5, 5, NONE};
        for (int b = 0; b <= 6; b++) {
            check.same("lost(" + b + ", false)", w.lost(b, false), lost[b]);
            check.same("lost(" + b + ", true)", w.lost(b, true), alone[b]);
        }
        for (int b : new int[] {LEAST, -1}) {
            check.same("lost(" + b + ", false)", w.lost(b, false), 1);
            check.same("lost(" + b + ", true)", w.lost(b, true), 1);
        }
        check.same("lost(most, false)", w.lost(MOST, false), NONE);
        check.same("lost(most, true)", w.lost(MOST, true), NONE);
        check.same("lost blocks", w.told(11), 3);
    }

    /** "NONE" of lost: there is none, or none alone. */
    private static void lostTellsNone() {
        ShadowWard w = new ShadowWard(1024, 100);
        w.global(8);
        check.same("no block", w.lost(0, false), NONE);
        check.same("no block, alone", w.lost(0, true), NONE);
        w.allocate(0, 16, 0);
        w.allocate(0, 16, 0);
        w.store(272, 4, 320);
        w.store(320, 4, 272);
        check.same("two that lead to one another", w.lost(0, false), 0);
        check.same("none of them is alone", w.lost(0, true), NONE);
        w.store(0, 4, 272);
        check.same("none is lost", w.lost(0, false), NONE);
        check.changesNothing(w, "lost changes nothing", () -> w.lost(0, true), NONE);
        w.store(0, 4, 0);
        w.free(0, 272, 0);
        w.free(0, 320, 0);
        check.same("none is live", w.lost(0, false), NONE);
        check.same("none is live, alone", w.lost(0, true), NONE);
    }

    private static void told(ShadowWard w, String when, int... due) {
        for (int what = 0; what < due.length; what++) {
            check.same(when + ": told(" + what + ")", w.told(what), due[what]);
        }
    }

    /** "N (what = 0), Q (1), globals (2), frames (3), blocks that were given (4), live ones (5), reports (6), blocks
     *  in QUARANTINE (7), the bytes of their chunks (8), of live ones' chunks (9), good addresses (10), lost blocks
     *  (11)". */
    private static void toldOfEachWhat() {
        ShadowWard w = new ShadowWard(1024, 100);
        told(w, "at first", 1024, 100, 0, 0, 0, 0, 0, 0, 0, 0, 128, 0);
        w.global(9);
        told(w, "global", 1024, 100, 1, 0, 0, 0, 0, 0, 0, 0, 137, 0);
        w.global(100);
        told(w, "no global", 1024, 100, 1, 0, 0, 0, 0, 0, 0, 0, 137, 0);
        w.enter(5, 0, 0, 0);
        told(w, "enter", 1024, 100, 1, 1, 0, 0, 0, 0, 0, 0, 9 + 32 + 5, 0);
        w.enter(5, 0, 0, 0);
        told(w, "no frame", 1024, 100, 1, 1, 0, 0, 0, 0, 0, 0, 46, 0);
        w.allocate(0, 20, 0);
        told(w, "allocate", 1024, 100, 1, 1, 1, 1, 0, 0, 0, 64, 66, 1);
        w.allocate(0, 70, 0);
        told(w, "allocate", 1024, 100, 1, 1, 2, 2, 0, 0, 0, 64 + 128, 136, 2);
        w.free(1, 272, 0);
        told(w, "report", 1024, 100, 1, 1, 2, 2, 1, 0, 0, 192, 136, 2);
        w.free(0, 272, 0);
        told(w, "free", 1024, 100, 1, 1, 2, 1, 1, 1, 64, 128, 116, 1);
        w.store(0, 4, 352);
        told(w, "found", 1024, 100, 1, 1, 2, 1, 1, 1, 64, 128, 116, 0);
        w.resize(352, 10, 0);
        // 192 bytes are more than 100, and 128 still are: none is held.
        told(w, "resize", 1024, 100, 1, 1, 3, 1, 1, 0, 0, 48, 56, 1);
        w.leave();
        told(w, "leave", 1024, 100, 1, 0, 3, 1, 1, 0, 0, 48, 51, 1);
    }

    /** "the bytes of their chunks (8), of live ones' chunks (9)": of blocks without bytes, too. */
    private static void toldCountsChunks() {
        ShadowWard w = new ShadowWard(1024, 1024);
        w.allocate(0, 0, 0);
        w.allocate(0, 1, 0);
        check.same("live", w.told(9), 80);
        w.free(0, 272, 0);
        check.same("held", w.told(8), 32);
        check.same("live", w.told(9), 48);
        w.free(0, 304, 0);
        check.same("held", w.told(8), 80);
        check.same("live", w.told(9), 0);
        w.allocate(0, 1024, 0);
        check.same("held", w.told(8), 0);
    }

    /** "good addresses (10)": by the shadow alone. */
    private static void toldCountsGoodAddresses() {
        ShadowWard w = new ShadowWard(1024, 0);
        w.lock(128, 16);
        check.same("locked ones are not", w.told(10), 112);
        w.unlock(128, 8);
        check.same("unlocked ones are", w.told(10), 120);
        w.enter(13, 0, 0, 0);
        check.same("a variable's are", w.told(10), 24 + 13);
        w.scope(0, 0, false);
        check.same("not out of scope", w.told(10), 24);
        w.leave();
        check.same("nor of a frame that was left", w.told(10), 24);
        w.allocate(0, 15, 0);
        check.same("a block's are", w.told(10), 39);
        w.free(0, 272, 0);
        check.same("a freed one's are not", w.told(10), 24);
    }

    /** "IllegalArgumentException: another what" of told. */
    private static void toldOfAnotherWhat() {
        ShadowWard w = ward();
        for (int what : new int[] {LEAST, -1, 12, 13, MOST}) {
            check.illegalArgument(w, "told(" + what + ")", () -> w.told(what));
        }
    }
}
