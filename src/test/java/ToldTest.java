/** Promises 19 to 25: what is told. */
public final class ToldTest {
    private static final Check check = new Check("ToldTest");
    private static final int NONE = ShadowWard.NONE;
    private static final int[] FAR_OUT = {-1, Integer.MIN_VALUE, Integer.MAX_VALUE};

    public static void main(String[] args) {
        reportOfGlobals();
        reportOfVariables();
        reportOfBlocks();
        reportOfTheLeastAddress();
        reportOfBlocksWithoutBytes();
        reportStaysAsItWas();
        reportRefusesWhatIsNot();
        blockTellsAll();
        shadowAndPeekRefuseWhatIsNot();
        peekReportsNothing();
        heldIsARow();
        lostFollowsRoots();
        lostFollowsScope();
        lostFollowsBlocks();
        lostReadsWholeWords();
        lostAlone();
        lostIsSearchedAnew();
        lostAloneReadsWholeWords();
        toldCounts();
        check.finish();
    }

    private static void near(ShadowWard w, int address, int place, int number, int far, int side) {
        int i = w.told(6);
        w.free(0, address, 1);
        String what = "at " + address;
        check.report(what, w, i, w.report(i, 0), address, 0, 1, place, number, far, side);
    }

    private static void reportOfGlobals() {
        ShadowWard w = new ShadowWard(2048, 0);
        near(w, 5, 0, NONE, 0, 0);
        w.global(10);
        w.global(10);
        near(w, 0, 1, 0, 0, 0);
        near(w, 9, 1, 0, 0, 0);
        near(w, 10, 1, 0, 1, 1);
        // 36 is 27 behind the first and 28 before the second; 37 is 28 behind and 27 before.
        near(w, 36, 1, 0, 27, 1);
        near(w, 37, 1, 1, 27, 2);
        near(w, 63, 1, 1, 1, 2);
        near(w, 255, 1, 1, 182, 1);
        near(w, 256, 0, NONE, 0, 0);
        near(w, 512, 0, NONE, 0, 0);
        ShadowWard even = new ShadowWard(2048, 0);
        even.global(9);
        even.global(9);
        // 36 is 28 behind the first and 28 before the second: the one with the least address.
        near(even, 36, 1, 0, 28, 1);
    }

    private static void reportOfVariables() {
        ShadowWard w = new ShadowWard(4096, 0);
        w.global(400);
        w.allocate(0, 10, 1);
        near(w, 600, 0, NONE, 0, 0);
        w.enter(5, 7, 0, 0);
        w.enter(0, 0, 9, 0);
        int outer = w.variable(0, 1);
        int inner = w.variable(1, 0);
        near(w, outer, 2, 1, 0, 0);
        near(w, outer + 7, 2, 1, 1, 1);
        near(w, outer - 1, 2, 1, 1, 2);
        near(w, 1023, 2, 1, 1023 - outer - 7 + 1, 1);
        near(w, inner + 2, 2, 4, 0, 0);
        near(w, 512, 2, 4, inner - 512, 2);
        w.scope(1, 0, false);
        near(w, inner + 2, 2, 4, 0, 0);
        w.leave();
        near(w, inner + 2, 2, 0, w.variable(0, 0) - inner - 2, 2);
        w.leave();
        near(w, outer, 0, NONE, 0, 0);
    }

    private static void reportOfBlocks() {
        ShadowWard w = new ShadowWard(1024, 100);
        w.global(10);
        w.enter(10, 0, 0, 0);
        near(w, 300, 0, NONE, 0, 0);
        w.allocate(1, 10, 41);
        w.allocate(1, 16, 42);
        // 300 is 19 behind the first and 20 before the second; 301 is 20 and 19.
        near(w, 300, 3, 0, 19, 1);
        near(w, 301, 3, 1, 19, 2);
        near(w, 1023, 3, 1, 1023 - 336 + 1, 1);
        w.free(1, 320, 43);
        near(w, 330, 3, 1, 0, 0);
        int i = w.told(6) - 1;
        check.same("given", w.report(i, 8), 42);
        check.same("freed", w.report(i, 9), 43);
        w.allocate(1, 1024, 1);
        near(w, 330, 3, 0, 49, 1);
        i = w.told(6) - 1;
        check.same("given", w.report(i, 8), 41);
        check.same("freed", w.report(i, 9), 0);
        w.free(1, 272, 44);
        w.allocate(1, 1024, 1);
        near(w, 272, 0, NONE, 0, 0);
        check.same("given", w.report(w.told(6) - 1, 8), 0);
    }

    private static void reportOfTheLeastAddress() {
        ShadowWard w = new ShadowWard(1024, 0);
        w.allocate(0, 16, 1);
        w.allocate(0, 16, 2);
        w.free(0, 272, 3);
        check.same("the younger one lies below", w.allocate(0, 15, 4), 272);
        // 303 is 17 behind the end of block 2 and 17 before block 1.
        near(w, 303, 3, 2, 17, 1);
        ShadowWard stack = new ShadowWard(4096, 0);
        stack.enter(31, 0, 0, 0);
        stack.enter(31, 0, 0, 0);
        int inner = stack.variable(1, 0);
        int outer = stack.variable(0, 0);
        // The inner one's end is outer - 65: 33 behind it there are 33 to the outer one.
        near(stack, inner + 31 + 32, 2, 4, 33, 1);
        near(stack, inner + 31 + 33, 2, 0, outer - inner - 64, 2);
    }

    private static void reportOfBlocksWithoutBytes() {
        ShadowWard w = new ShadowWard(1024, 100);
        w.allocate(0, 0, 51);
        check.same("load", w.load(272, 2), 0);
        check.report("load", w, 0, 1, 272, 2, 0, 3, 0, 1, 1, 51, 0);
        check.same("load before", w.load(271, 2), 0);
        check.report("load before", w, 1, 1, 271, 2, 0, 3, 0, 1, 2, 51, 0);
        check.yes("free", w.free(0, 272, 52));
        check.no("free twice", w.free(0, 272, 53));
        check.report("free twice", w, 2, 10, 272, 0, 1, 3, 0, 1, 1, 51, 52);
        check.same("nothing of it is freed memory", w.load(272, 1), 0);
        check.report("nothing of it is freed memory", w, 3, 1, 272, 1, 0, 3, 0, 1, 1, 51, 52);
    }

    private static void reportStaysAsItWas() {
        ShadowWard w = new ShadowWard(1024, 0);
        w.allocate(0, 4, 61);
        w.load(276, 1);
        w.free(0, 272, 62);
        w.allocate(1, 4, 63);
        check.report("before it was freed", w, 0, 1, 276, 1, 0, 3, 0, 1, 1, 61, 0);
        w.enter(4, 0, 0, 0);
        w.store(196, 1, 1);
        w.leave();
        check.report("before it was left", w, 1, 4, 196, 1, 1, 2, 0, 1, 1, 0, 0);
    }

    private static void reportRefusesWhatIsNot() {
        ShadowWard w = new ShadowWard(1024, 0);
        check.noSuch(w, "no report", () -> w.report(0, 0));
        check.noSuch(w, "no report, another what", () -> w.report(0, 10));
        w.load(-1, 1);
        check.noSuch(w, "report 1", () -> w.report(1, 0));
        for (int i : FAR_OUT) {
            check.noSuch(w, "report " + i, () -> w.report(i, 0));
            check.noSuch(w, "report first", () -> w.report(i, i));
            check.illegalArgument(w, "what " + i, () -> w.report(0, i));
        }
        check.illegalArgument(w, "what 10", () -> w.report(0, 10));
    }

    private static void blockTellsAll() {
        ShadowWard w = new ShadowWard(1024, 48);
        check.noSuch(w, "no block", () -> w.block(0, 0));
        w.allocate(2, 10, 71);
        w.allocate(1, 70, -72);
        w.free(2, 272, -73);
        int[][] due = {{272, 10, 2, 1, 256, 48, 71, -73}, {336, 70, 1, 0, 304, 128, -72, 0}};
        for (int b = 0; b < 2; b++) {
            for (int what = 0; what <= 7; what++) {
                check.same("block(" + b + ", " + what + ")", w.block(b, what), due[b][what]);
            }
        }
        w.free(1, 336, 74);
        int[] gone = {272, 10, 2, 2, 256, 48, 71, -73};
        for (int what = 0; what <= 7; what++) {
            check.same("gone: block(0, " + what + ")", w.block(0, what), gone[what]);
        }
        check.same("too great to be held", w.block(1, 3), 2);
        check.noSuch(w, "block 2", () -> w.block(2, 0));
        for (int i : FAR_OUT) {
            check.noSuch(w, "block " + i, () -> w.block(i, 0));
            check.noSuch(w, "block first", () -> w.block(i, i));
            check.illegalArgument(w, "what " + i, () -> w.block(0, i));
        }
        check.illegalArgument(w, "what 8", () -> w.block(0, 8));
    }

    private static void shadowAndPeekRefuseWhatIsNot() {
        ShadowWard w = new ShadowWard(1088, 0);
        check.same("the last granule", w.shadow(135), 250);
        check.same("the last byte", w.peek(1087), 0);
        check.noSuch(w, "shadow(136)", () -> w.shadow(136));
        check.noSuch(w, "peek(1088)", () -> w.peek(1088));
        for (int i : FAR_OUT) {
            check.noSuch(w, "shadow", () -> w.shadow(i));
            check.noSuch(w, "peek", () -> w.peek(i));
        }
    }

    private static void peekReportsNothing() {
        ShadowWard w = new ShadowWard(1024, 100);
        w.allocate(0, 4, 1);
        w.store(272, 4, 0xFF01);
        w.free(0, 272, 1);
        check.same("freed", w.peek(272), 1);
        check.same("without a sign", w.peek(273), 255);
        check.same("a redzone", w.peek(256), 0);
        check.same("no report", w.told(6), 0);
    }

    private static void heldIsARow() {
        ShadowWard w = new ShadowWard(1024, 144);
        for (int i = 0; i < 5; i++) {
            w.allocate(0, 1, i);
        }
        check.noSuch(w, "none is held", () -> w.held(0));
        int[] order = {3, 1, 4, 0};
        for (int b : order) {
            check.yes("free", w.free(0, w.block(b, 0), 1));
        }
        check.same("the oldest has left", w.block(3, 3), 2);
        check.same("0", w.held(0), 1);
        check.same("1", w.held(1), 4);
        check.same("2", w.held(2), 0);
        check.noSuch(w, "held(3)", () -> w.held(3));
        for (int i : FAR_OUT) {
            check.noSuch(w, "held", () -> w.held(i));
        }
    }

    private static void lost(ShadowWard w, String what, int... due) {
        check.same(what + ": told(11)", w.told(11), due.length);
        int next = 0;
        for (int k = 0; k <= due.length; k++) {
            int want = k < due.length ? due[k] : NONE;
            check.same(what + ": lost(" + next + ", false)", w.lost(next, false), want);
            next = want + 1;
        }
    }

    private static void alone(ShadowWard w, String what, int... due) {
        int next = 0;
        for (int k = 0; k <= due.length; k++) {
            int want = k < due.length ? due[k] : NONE;
            check.same(what + ": lost(" + next + ", true)", w.lost(next, true), want);
            next = want + 1;
        }
    }

    /** Globals of 16 bytes at 0, blocks of 16 bytes at 528, 576, 624, 672. */
    private static ShadowWard wardWithBlocks() {
        ShadowWard w = new ShadowWard(2048, 100);
        w.global(16);
        for (int i = 0; i < 4; i++) {
            check.same("block " + i, w.allocate(0, 16, i), 528 + 48 * i);
        }
        return w;
    }

    private static void lostFollowsRoots() {
        ShadowWard w = wardWithBlocks();
        lost(w, "at first", 0, 1, 2, 3);
        w.store(0, 4, 528);
        w.store(4, 4, 576 + 15);
        lost(w, "first and last byte", 2, 3);
        w.store(8, 4, 624 - 1);
        w.store(12, 4, 624 + 16);
        lost(w, "not before, nor behind", 2, 3);
        check.yes("store", w.store(8, 4, 624 + (1L << 31)));
        check.yes("store", w.store(12, 4, 624 + (1L << 16)));
        lost(w, "a word is four bytes", 2, 3);
        w.store(12, 4, 672);
        lost(w, "the last word", 2);
        check.same("from another number", w.lost(2, false), 2);
        check.same("behind it", w.lost(3, false), NONE);
        check.same("below all", w.lost(Integer.MIN_VALUE, false), 2);
        check.same("above all", w.lost(Integer.MAX_VALUE, false), NONE);
        w.lock(0, 16);
        lost(w, "locks do not matter", 2);
        w.free(0, 624, 1);
        lost(w, "a freed one is not lost");
        check.same("none", w.lost(0, false), NONE);
        check.same("none alone", w.lost(0, true), NONE);
    }

    private static void lostFollowsScope() {
        ShadowWard w = wardWithBlocks();
        w.enter(4, 0, 0, 0);
        w.enter(8, 0, 0, 0);
        w.store(w.variable(0, 0), 4, 528);
        w.store(w.variable(1, 0) + 4, 4, 576);
        lost(w, "variables of all frames", 2, 3);
        w.scope(0, 0, false);
        lost(w, "out of scope", 0, 2, 3);
        w.scope(0, 0, true);
        lost(w, "in scope again", 2, 3);
        w.leave();
        lost(w, "a frame that was left", 1, 2, 3);
        w.enter(8, 0, 0, 0);
        lost(w, "its bytes are still there", 2, 3);
    }

    private static void lostFollowsBlocks() {
        ShadowWard w = wardWithBlocks();
        w.store(0, 4, 672);
        w.store(672 + 8, 4, 624);
        w.store(624 + 12, 4, 528);
        w.store(528, 4, 672);
        lost(w, "a chain, and a ring", 1);
        w.free(0, 624, 1);
        lost(w, "words of a freed one lead nowhere", 0, 1);
        alone(w, "words of a freed one lead nowhere", 0, 1);
        check.same("empty", w.allocate(0, 0, 1), 720);
        w.store(4, 4, 720);
        lost(w, "a block without bytes is always lost", 0, 1, 4);
    }

    private static void lostReadsWholeWords() {
        ShadowWard w = new ShadowWard(2048, 100);
        w.global(7);
        w.allocate(0, 3, 1);
        w.store(4, 3, 528);
        check.same("the byte behind is 0", w.peek(7), 0);
        lost(w, "some of its bytes are the global's", 0);
        w.store(2, 4, 528);
        lost(w, "not at a multiple of 4", 0);
        w.store(0, 4, 530);
        lost(w, "a whole one");
        w.store(0, 4, 531);
        lost(w, "the block has 3 bytes", 0);
    }

    private static void lostAlone() {
        ShadowWard w = wardWithBlocks();
        alone(w, "at first", 0, 1, 2, 3);
        w.store(528, 4, 540);
        alone(w, "one that leads to itself", 0, 1, 2, 3);
        w.store(532, 4, 576);
        alone(w, "one leads to another", 0, 2, 3);
        w.store(580, 4, 528);
        alone(w, "a ring", 2, 3);
        lost(w, "a ring", 0, 1, 2, 3);
        w.store(0, 4, 672);
        w.store(624, 4, 672);
        alone(w, "found", 2);
        check.yes("the ring is opened", w.store(580, 4, 0));
        alone(w, "the ring is opened", 0, 2);
        check.yes("by the last word", w.store(576 + 12, 4, 528));
        alone(w, "the ring is closed by the last word", 2);
        check.same("from 3", w.lost(3, true), NONE);
        check.same("below all", w.lost(-9, true), 2);
        w.store(4, 4, 576);
        alone(w, "the ring is found", 2);
        lost(w, "the ring is found", 2);
    }

    private static void lostIsSearchedAnew() {
        ShadowWard w = wardWithBlocks();
        w.store(0, 4, 528);
        check.same("found, as the first call", w.lost(0, false), 1);
        w.store(4, 4, 576);
        check.same("found, then alone", w.lost(0, true), 2);
        w.store(0, 4, 0);
        check.same("not found any more", w.lost(0, true), 0);
    }

    private static void lostAloneReadsWholeWords() {
        ShadowWard w = new ShadowWard(2048, 100);
        check.same("0", w.allocate(0, 16, 1), 528);
        check.same("1", w.allocate(0, 16, 1), 576);
        w.store(576, 4, 528);
        w.store(580, 4, 528);
        alone(w, "two words lead to it", 1);
        w.free(0, 576, 1);
        w.allocate(0, 1024, 1);
        w.allocate(0, 1025, 1);
        check.same("its place is given again", w.allocate(0, 3, 1), 576);
        check.same("with bytes of the old one behind it", w.peek(580), 528 & 255);
        check.same("first alone", w.lost(0, true), 0);
    }

    private static void toldCounts() {
        ShadowWard w = new ShadowWard(2048, 100);
        w.global(20);
        w.global(1);
        w.enter(10, 3, 0, 0);
        w.allocate(0, 17, 1);
        w.allocate(0, 100, 1);
        w.allocate(0, 9, 1);
        w.free(0, w.block(0, 0), 1);
        w.load(-1, 1);
        int[] due = {2048, 100, 2, 1, 3, 2, 1, 1, 64, 160 + 48, 20 + 1 + 13 + 256 - 160 + 109, 2};
        for (int what = 0; what <= 11; what++) {
            check.same("told(" + what + ")", w.told(what), due[what]);
        }
        w.leave();
        check.same("good ones without the frame", w.told(10), 20 + 1 + 256 - 160 + 109);
        check.same("no frames", w.told(3), 0);
        for (int i : FAR_OUT) {
            check.illegalArgument(w, "told", () -> w.told(i));
        }
        check.illegalArgument(w, "told(12)", () -> w.told(12));
    }
}
