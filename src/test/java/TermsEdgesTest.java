/** The boundary cases that the document's "Terms" name: a test for each sentence, which stands above it. */
public final class TermsEdgesTest {
    private static final Check check = new Check("TermsEdgesTest");
    private static final int NONE = ShadowWard.NONE;
    private static final int LEAST = Integer.MIN_VALUE;
    private static final int MOST = Integer.MAX_VALUE;
    private static final int[] SIZES_OF_MEMORY = {1024, 1088, 4096, 8192};

    public static void main(String[] args) {
        bytesAreNoLessAndNoMore();
        bytesAreNothingAtFirst();
        addressesEndBelowN();
        partsMeetAtTheirEdges();
        granulesAreEightAddresses();
        shadowTellsHowManyAreGood();
        otherShadowsTellThatNoneIsGood();
        openedBytesFillTheirGranulesOrNot();
        openingNothingChangesNothing();
        globalsAreAtTheNextMultiple();
        framesHaveOneToFourVariables();
        framesLieBelowTheOneBefore();
        variablesAreFilledUp();
        lastVariableHasItsOwnShadow();
        frameKeepsItsBytes();
        leftFrameIsLeftWhole();
        blocksAreNumberedAsGiven();
        redzonesGrowWithTheSize();
        chunksAreFilledUp();
        chunkTakesTheLeastPlace();
        chunkLiesWholeInTheHeap();
        oldestLeavesUntilThereIsAPlace();
        noneIsLeftInQuarantine();
        newBlockHasNewBytes();
        chunkIsGoneWithItsBlock();
        freedBlockIsMarked();
        quarantineHoldsNoMoreThanQ();
        goneChunkIsAboutBlocks();
        check.finish();
    }

    private static void wrong(ShadowWard w, int address, int kind) {
        int i = w.told(6);
        check.same("load(" + address + ", 1)", w.load(address, 1), 0);
        check.same("load(" + address + ", 1) is reported", w.told(6), i + 1);
        check.same("kind at " + address, w.report(i, 0), kind);
        check.same("address at " + address, w.report(i, 1), address);
    }

    private static void right(ShadowWard w, int address) {
        int i = w.told(6);
        check.same("load(" + address + ", 1)", w.load(address, 1), w.peek(address));
        check.same("load(" + address + ", 1) is not reported", w.told(6), i);
    }

    /** "The MEMORY has N bytes, 0 .. 255 each". */
    private static void bytesAreNoLessAndNoMore() {
        ShadowWard w = new ShadowWard(1024, 0);
        long[][] rows = {{-1, 255}, {0, 0}, {255, 255}, {256, 0}, {128, 128}, {127, 127}, {-128, 128}, {-256, 0},
            {Long.MIN_VALUE, 0}, {Long.MAX_VALUE, 255}};
        for (long[] row : rows) {
            w.store(128, 1, row[0]);
            check.same("byte of store " + row[0], w.peek(128), row[1]);
            check.same("number of store " + row[0], w.load(128, 1), row[1]);
            w.fill(129, 1, (int) row[0]);
            check.same("byte of fill " + row[0], w.peek(129), row[1]);
        }
    }

    /** "all 0 at first". */
    private static void bytesAreNothingAtFirst() {
        for (int n : SIZES_OF_MEMORY) {
            ShadowWard w = new ShadowWard(n, 0);
            for (int a = 0; a < n; a++) {
                check.same("first byte " + a + " of " + n, w.peek(a), 0);
            }
        }
    }

    /** "ADDRESSES are 0 .. N - 1". */
    private static void addressesEndBelowN() {
        for (int n : SIZES_OF_MEMORY) {
            ShadowWard w = new ShadowWard(n, 0);
            wrong(w, -1, 9);
            wrong(w, 0, 7);
            wrong(w, n - 1, 1);
            wrong(w, n, 9);
            wrong(w, LEAST, 9);
            wrong(w, MOST, 9);
        }
    }

    /** "GLOBALS below N / 8, the STACK from there on below N / 4, the HEAP from there on", and
     *  "At first it is 249 in GLOBALS, 0 in the STACK, 250 in the HEAP". */
    private static void partsMeetAtTheirEdges() {
        for (int n : SIZES_OF_MEMORY) {
            ShadowWard w = new ShadowWard(n, 0);
            check.shadows("globals and stack of " + n, w, n / 64 - 1, 249, 0);
            check.shadows("stack and heap of " + n, w, n / 32 - 1, 0, 250);
            check.same("the first shadow of " + n, w.shadow(0), 249);
            check.same("the last shadow of " + n, w.shadow(n / 8 - 1), 250);
            check.same("good ones of " + n, w.told(10), n / 8);
            wrong(w, n / 8 - 1, 7);
            right(w, n / 8);
            right(w, n / 4 - 1);
            wrong(w, n / 4, 1);
        }
    }

    /** "GRANULE g is the eight addresses 8 g and on". */
    private static void granulesAreEightAddresses() {
        ShadowWard w = new ShadowWard(1024, 0);
        check.same("one granule", w.lock(136, 8), 1);
        check.shadows("one granule", w, 16, 0, 247, 0);
        right(w, 135);
        wrong(w, 136, 8);
        wrong(w, 143, 8);
        right(w, 144);
    }

    private static void firstOnesAreGood(ShadowWard w, int address, int good, int kind) {
        for (int k = 0; k < 8; k++) {
            if (k < good) {
                right(w, address + k);
            } else {
                wrong(w, address + k, kind);
            }
        }
    }

    /** "0, all its bytes are GOOD; 1 .. 7, the first so many are". */
    private static void shadowTellsHowManyAreGood() {
        for (int good = 1; good <= 8; good++) {
            ShadowWard w = new ShadowWard(1024, 0);
            w.global(good);
            w.enter(good, 0, 0, 0);
            w.allocate(0, good, 0);
            int shadow = good == 8 ? 0 : good;
            check.same("a global of " + good, w.shadow(0), shadow);
            check.same("a variable of " + good, w.shadow(24), shadow);
            check.same("a block of " + good, w.shadow(34), shadow);
            // The frame has 96 of the stack's 128 bytes.
            check.same("good ones with " + good, w.told(10), 32 + 3 * good);
            firstOnesAreGood(w, 0, good, 7);
            firstOnesAreGood(w, 192, good, 4);
            firstOnesAreGood(w, 272, good, 1);
        }
    }

    /** "another one, none is: 241 left of a frame's variables, 242 between them, 243 right of them, 245 of a
     *  frame that was left, 247 locked, 248 of a variable that is out of scope, 249 about globals, 250 about
     *  blocks, 253 of a block that was freed". */
    private static void otherShadowsTellThatNoneIsGood() {
        ShadowWard w = new ShadowWard(2048, 100);
        w.global(8);
        w.enter(8, 8, 8, 0);
        w.allocate(0, 8, 0);
        w.allocate(0, 8, 0);
        w.free(0, 528, 0);
        w.scope(0, 1, false);
        w.lock(w.variable(0, 2), 8);
        // The frame has 32 + 3 * 64 bytes below 512.
        int[][] rows = {{288, 241, 3}, {328, 242, 4}, {456, 243, 4}, {384, 248, 6}, {448, 247, 8},
            {8, 249, 7}, {512, 250, 1}, {528, 253, 2}};
        for (int[] row : rows) {
            check.same("shadow at " + row[0], w.shadow(row[0] / 8), row[1]);
            firstOnesAreGood(w, row[0], 0, row[2]);
        }
        ShadowWard left = new ShadowWard(1024, 0);
        left.enter(8, 0, 0, 0);
        left.leave();
        check.same("shadow of a frame that was left", left.shadow(24), 245);
        firstOnesAreGood(left, 192, 0, 5);
    }

    private static void opened(String what, ShadowWard w, int address, int n, int about) {
        int granule = address / 8;
        for (int k = 0; k < n / 8; k++) {
            check.same(what + " of " + n + ", granule " + k, w.shadow(granule + k), 0);
        }
        int next = granule + n / 8;
        if (n % 8 != 0) {
            check.same(what + " of " + n + ", the last granule", w.shadow(next), n % 8);
            next++;
        }
        check.same(what + " of " + n + ", behind it", w.shadow(next), about);
    }

    /** "the shadows of the granules that they begin in become 0, but that of the last one, if they do not fill
     *  it, becomes how many of its bytes they are". */
    private static void openedBytesFillTheirGranulesOrNot() {
        for (int n = 1; n <= 25; n++) {
            ShadowWard w = new ShadowWard(4096, 0);
            opened("global", w, w.global(n), n, 249);
            w.enter(n, n, 0, 0);
            opened("first variable", w, w.variable(0, 0), n, 242);
            opened("last variable", w, w.variable(0, 1), n, 243);
            w.scope(0, 0, false);
            w.scope(0, 0, true);
            opened("variable in scope again", w, w.variable(0, 0), n, 242);
            opened("block", w, w.allocate(0, n, 0), n, 250);
        }
    }

    /** "the granules that they begin in": no bytes begin in none. */
    private static void openingNothingChangesNothing() {
        ShadowWard w = new ShadowWard(1024, 1024);
        check.same("a block of no bytes", w.allocate(0, 0, 0), 272);
        check.shadows("it is not opened", w, 32, 250, 250, 250, 250, 250);
        check.same("good ones", w.told(10), 128);
        check.yes("it is freed", w.free(0, 272, 0));
        check.shadows("nothing is marked", w, 32, 250, 250, 250, 250, 250);
    }

    /** "The first one is at 0; each other one 32 bytes and more behind the end of the one before, at the next
     *  multiple of 32." */
    private static void globalsAreAtTheNextMultiple() {
        int[][] rows = {{1, 64}, {31, 64}, {32, 64}, {33, 96}, {63, 96}, {64, 96}, {65, 128}, {96, 128}, {97, 160},
            {511, 544}, {512, 544}};
        for (int[] row : rows) {
            ShadowWard w = new ShadowWard(8192, 0);
            check.same("the first one", w.global(row[0]), 0);
            check.same("behind one of " + row[0], w.global(1), row[1]);
            check.same("behind that", w.global(1), row[1] + 64);
            check.same("between them", w.shadow(row[1] / 8 - 1), 249);
        }
    }

    /** "each has 1 to 4 VARIABLES of 1 to 128 bytes". */
    private static void framesHaveOneToFourVariables() {
        ShadowWard w = new ShadowWard(8192, 0);
        check.same("one of 1 byte", w.enter(0, 0, 0, 1), 2048 - 96);
        check.same("it is variable 0", w.variable(0, 0), 2048 - 64);
        check.noSuch(w, "one has no second", () -> w.variable(0, 1));
        check.same("four of 128 bytes", w.enter(128, 128, 128, 128), 1952 - 672);
        for (int v = 0; v < 4; v++) {
            check.same("variable " + v, w.variable(1, v), 1280 + 32 + 160 * v);
            check.yes("all of variable " + v + " is good", w.fill(1280 + 32 + 160 * v, 128, v));
        }
        check.noSuch(w, "four have no fifth", () -> w.variable(1, 4));
    }

    /** "A frame's bytes lie below those of the frame before (the outermost one's below N / 4)". */
    private static void framesLieBelowTheOneBefore() {
        for (int n : SIZES_OF_MEMORY) {
            ShadowWard w = new ShadowWard(n, 0);
            check.same("the outermost one of " + n, w.enter(1, 0, 0, 0), n / 4 - 96);
            check.shadows("its end", w, n / 32 - 1, 243, 250);
        }
        ShadowWard w = new ShadowWard(4096, 0);
        check.same("frame 0", w.enter(1, 0, 0, 0), 928);
        check.same("frame 1", w.enter(33, 0, 0, 0), 800);
        check.same("frame 2", w.enter(1, 1, 0, 0), 640);
        check.shadows("frames 1 and 0 meet", w, 115, 243, 241);
        check.shadows("frames 2 and 1 meet", w, 99, 243, 241);
        check.shadows("nothing lies below frame 2", w, 79, 0, 241);
    }

    /** "first 32 bytes with the shadow 241; then for each variable its bytes, as many more as make a multiple of
     *  32 of them, and 32 more". */
    private static void variablesAreFilledUp() {
        int[][] rows = {{1, 64}, {31, 64}, {32, 64}, {33, 96}, {64, 96}, {65, 128}, {96, 128}, {97, 160}, {128, 160}};
        for (int[] row : rows) {
            ShadowWard w = new ShadowWard(8192, 0);
            int frame = 2048 - 32 - row[1] - 64;
            check.same("a frame with " + row[0], w.enter(row[0], 1, 0, 0), frame);
            check.shadows("left of " + row[0], w, frame / 8 - 1, 0, 241, 241, 241, 241, row[0] == 1 ? 1 : 0);
            check.same("variable of " + row[0], w.variable(0, 0), frame + 32);
            check.same("behind " + row[0], w.variable(0, 1), frame + 32 + row[1]);
        }
    }

    /** "it is opened, and the granules of these that it does not begin in get 242, of the last variable 243". */
    private static void lastVariableHasItsOwnShadow() {
        ShadowWard one = new ShadowWard(1024, 0);
        one.enter(0, 9, 0, 0);
        check.shadows("the only one is the last", one, 24, 0, 1, 243, 243, 243, 243, 243, 243, 250);
        ShadowWard two = new ShadowWard(2048, 0);
        two.enter(32, 0, 24, 0);
        check.shadows("one that is not the last", two, 48, 0, 0, 0, 0, 242, 242, 242, 242);
        check.shadows("the last", two, 56, 0, 0, 0, 243, 243, 243, 243, 243, 250);
    }

    /** "What the bytes are is not changed." */
    private static void frameKeepsItsBytes() {
        ShadowWard w = new ShadowWard(1024, 0);
        w.fill(128, 128, 201);
        w.enter(64, 0, 0, 0);
        for (int a = 128; a < 256; a++) {
            check.same("entered, byte " + a, w.peek(a), 201);
        }
        check.same("a variable has old bytes", w.load(160, 2), 201 * 257);
        w.scope(0, 0, false);
        w.leave();
        w.enter(1, 0, 0, 0);
        for (int a = 128; a < 256; a++) {
            check.same("left and entered, byte " + a, w.peek(a), 201);
        }
    }

    /** "When a frame is left, all its granules get 245." */
    private static void leftFrameIsLeftWhole() {
        ShadowWard w = new ShadowWard(2048, 0);
        w.enter(1, 0, 0, 0);
        w.enter(8, 8, 0, 0);
        w.lock(w.variable(1, 0), 8);
        w.scope(1, 1, false);
        check.shadows("before", w, 32, 241, 241, 241, 241, 247, 242);
        w.leave();
        for (int g = 32; g < 52; g++) {
            check.same("left, granule " + g, w.shadow(g), 245);
        }
        check.shadows("the frame before stays", w, 52, 241, 241, 241, 241, 1, 243);
        ShadowWard over = new ShadowWard(1024, 0);
        over.enter(1, 0, 0, 0);
        over.leave();
        check.shadows("only its own granules", over, 19, 0, 245);
        check.shadows("up to the heap", over, 31, 245, 250);
        check.same("no granule is good by it", over.told(10), 32);
    }

    /** "BLOCKS are numbered from 0, in the order in which they are given". */
    private static void blocksAreNumberedAsGiven() {
        ShadowWard w = new ShadowWard(1024, 0);
        w.allocate(0, 1, 10);
        check.same("no place, no number", w.allocate(0, 1024, 11), NONE);
        w.allocate(1, 1, 12);
        w.free(0, 272, 0);
        check.same("the place of block 0", w.allocate(2, 1, 13), 272);
        check.same("by resize", w.resize(NONE, 1, 14), 368);
        check.same("by resize", w.resize(368, 2, 15), 416);
        for (int b = 0; b < 5; b++) {
            check.same("site of block " + b, w.block(b, 6), b == 0 ? 10 : 11 + b);
        }
        check.same("given", w.told(4), 5);
    }

    /** "R is 16 up to a size of 64, 32 up to 256, 64 up to 1024, 128 above". */
    private static void redzonesGrowWithTheSize() {
        int[][] rows = {{0, 16}, {1, 16}, {63, 16}, {64, 16}, {65, 32}, {255, 32}, {256, 32}, {257, 64}, {1023, 64},
            {1024, 64}, {1025, 128}, {6000, 128}};
        for (int[] row : rows) {
            ShadowWard w = new ShadowWard(8192, 0);
            check.same("address of " + row[0], w.allocate(0, row[0], 0), 2048 + row[1]);
            check.same("chunk of " + row[0], w.block(0, 4), 2048);
            check.same("before " + row[0], w.shadow((2048 + row[1]) / 8 - 1), 250);
        }
    }

    /** "A block lies in a CHUNK: R bytes, its own, as many more as make a multiple of 16 of them, and 16 more". */
    private static void chunksAreFilledUp() {
        int[][] rows = {{0, 32}, {1, 48}, {15, 48}, {16, 48}, {17, 64}, {32, 64}, {33, 80}, {64, 96}, {65, 128},
            {80, 128}, {81, 144}, {256, 304}, {257, 352}, {1024, 1104}, {1025, 1184}, {1040, 1184}, {1041, 1200}};
        for (int[] row : rows) {
            ShadowWard w = new ShadowWard(8192, 0);
            w.allocate(0, row[0], 0);
            check.same("chunk of " + row[0], w.block(0, 5), row[1]);
            w.allocate(0, 0, 0);
            check.same("the next chunk behind " + row[0], w.block(1, 4), 2048 + row[1]);
        }
    }

    /** Eight blocks of 48-byte chunks from 256 on, of which those named are gone. */
    private static ShadowWard withGaps(int... gone) {
        ShadowWard w = new ShadowWard(1024, 0);
        for (int b = 0; b < 8; b++) {
            check.same("block " + b, w.allocate(0, 16, 0), 272 + 48 * b);
        }
        for (int b : gone) {
            w.free(0, 272 + 48 * b, 0);
        }
        return w;
    }

    /** "The chunk lies at the least multiple of 16 in the HEAP from which on it lies whole in the HEAP without a
     *  byte of another chunk". */
    private static void chunkTakesTheLeastPlace() {
        check.same("a gap that it fills", withGaps(2, 5).allocate(0, 16, 0), 272 + 96);
        check.same("a gap with a rest", withGaps(2, 5).allocate(0, 0, 0), 272 + 96);
        check.same("a gap that is 16 bytes too small", withGaps(2, 5).allocate(0, 17, 0), 272 + 384);
        check.same("a greater gap behind a small one", withGaps(2, 4, 5).allocate(0, 64, 0), 272 + 192);
        check.same("one byte more", withGaps(2, 4, 5).allocate(0, 65, 0), 256 + 384 + 32);
        check.same("the first place of all", withGaps(0, 7).allocate(0, 1, 0), 272);
        ShadowWard w = withGaps(2);
        w.allocate(0, 0, 0);
        check.same("the rest of a gap is too small", w.allocate(0, 0, 0), 272 + 384);
        check.same("and stays so", w.block(9, 4), 256 + 384);
    }

    /** "it lies whole in the HEAP". */
    private static void chunkLiesWholeInTheHeap() {
        ShadowWard w = new ShadowWard(1024, 0);
        check.same("one byte too many", w.allocate(0, 689, 0), NONE);
        check.same("all of the heap", w.allocate(0, 688, 0), 320);
        check.same("its bytes", w.block(0, 5), 768);
        check.same("nothing is left", w.allocate(0, 0, 0), NONE);
        ShadowWard odd = new ShadowWard(1088, 0);
        check.same("a heap from 272 on", odd.allocate(0, 736, 0), 272 + 64);
        check.same("its bytes", odd.block(0, 5), 816);
        ShadowWard rest = new ShadowWard(1024, 0);
        check.same("all but 32 bytes", rest.allocate(0, 656, 0), 320);
        check.same("48 do not lie in 32", rest.allocate(0, 1, 0), NONE);
        check.same("32 do", rest.allocate(0, 0, 0), 992 + 16);
    }

    /** "is there none, the oldest block in QUARANTINE leaves it, and so on, until there is one". */
    private static void oldestLeavesUntilThereIsAPlace() {
        ShadowWard w = new ShadowWard(1024, 1024);
        for (int b = 0; b < 16; b++) {
            check.same("block " + b, w.allocate(0, 16, 0), 272 + 48 * b);
        }
        int[] order = {9, 3, 4, 12};
        for (int b : order) {
            w.free(0, 272 + 48 * b, 0);
        }
        check.same("the oldest one's place, not the least one", w.allocate(0, 16, 0), 272 + 48 * 9);
        check.same("only one has left", w.told(7), 3);
        check.same("the next one", w.held(0), 3);
        check.same("two leave for 96 bytes", w.allocate(0, 64, 0), 272 + 48 * 3);
        check.same("one stays", w.told(7), 1);
        check.same("the youngest", w.held(0), 12);
        ShadowWard free = new ShadowWard(1024, 1024);
        free.allocate(0, 16, 0);
        free.free(0, 272, 0);
        check.same("with a place none leaves", free.allocate(0, 16, 0), 320);
        check.same("it stays", free.told(7), 1);
    }

    /** "or none is left in it". */
    private static void noneIsLeftInQuarantine() {
        ShadowWard w = new ShadowWard(1024, 1024);
        w.allocate(0, 16, 0);
        w.allocate(0, 16, 0);
        w.allocate(0, 16, 0);
        w.free(0, 272, 0);
        w.free(0, 368, 0);
        check.same("a live block is in the way", w.allocate(0, 680, 0), NONE);
        check.same("none is left", w.told(7), 0);
        check.same("gone", w.block(0, 3), 2);
        check.same("the live one stays", w.block(1, 3), 0);
        check.same("gone", w.block(2, 3), 2);
        check.same("their places are free", w.allocate(0, 16, 0), 272);
        check.same("without a quarantine, too", w.allocate(0, 1024, 0), NONE);
        ShadowWard last = new ShadowWard(1024, 1024);
        last.allocate(0, 16, 0);
        last.free(0, 272, 0);
        check.same("a place when the last has left", last.allocate(0, 688, 0), 320);
    }

    /** "The block's bytes become 190, its chunk's shadows 250, then it is opened." */
    private static void newBlockHasNewBytes() {
        ShadowWard w = new ShadowWard(1024, 0);
        w.allocate(0, 32, 0);
        w.fill(272, 32, 7);
        w.free(0, 272, 0);
        check.same("again", w.allocate(0, 13, 0), 272);
        check.bytes("before", w, 270, 0, 0);
        for (int a = 272; a < 285; a++) {
            check.same("byte " + a, w.peek(a), 190);
        }
        check.bytes("behind", w, 285, 7, 7, 7, 7);
        check.shadows("chunk", w, 32, 250, 250, 0, 5, 250, 250, 250);
        check.same("its last byte", w.load(284, 1), 190);
        ShadowWard none = new ShadowWard(1024, 0);
        none.allocate(0, 0, 0);
        check.bytes("no bytes of its own", none, 271, 0, 0, 0);
    }

    /** "A block is LIVE, then in QUARANTINE, then GONE, with its chunk." */
    private static void chunkIsGoneWithItsBlock() {
        ShadowWard w = new ShadowWard(1024, 48);
        w.allocate(0, 1, 0);
        check.same("live", w.block(0, 3), 0);
        w.free(0, 272, 0);
        check.same("in quarantine", w.block(0, 3), 1);
        check.same("then its chunk is still taken", w.allocate(0, 1, 0), 320);
        w.free(0, 320, 0);
        check.same("gone", w.block(0, 3), 2);
        check.same("then its chunk is not", w.allocate(0, 1, 0), 272);
        check.same("a gone one stays gone", w.block(0, 3), 2);
        check.same("and keeps its number", w.block(2, 0), 272);
    }

    /** "What is freed comes behind it, the granules that it begins in get 253". */
    private static void freedBlockIsMarked() {
        for (int size = 1; size <= 17; size++) {
            ShadowWard w = new ShadowWard(1024, 1024);
            w.allocate(0, size, 0);
            w.free(0, 272, 0);
            int granules = (size + 7) / 8;
            for (int g = 0; g < 6; g++) {
                int due = g >= 2 && g < 2 + granules ? 253 : 250;
                check.same("size " + size + ", granule " + (32 + g), w.shadow(32 + g), due);
            }
        }
        ShadowWard row = new ShadowWard(1024, 1024);
        row.allocate(0, 1, 0);
        row.allocate(0, 1, 0);
        row.free(0, 320, 0);
        row.free(0, 272, 0);
        check.same("the first freed", row.held(0), 1);
        check.same("behind it", row.held(1), 0);
    }

    /** "then, as long as the chunks of all that is in it have more bytes than Q, the oldest leaves". */
    private static void quarantineHoldsNoMoreThanQ() {
        int[][] rows = {{0, 0}, {47, 0}, {48, 1}, {95, 1}, {96, 2}, {143, 2}, {144, 3}, {1024, 3}};
        for (int[] row : rows) {
            ShadowWard w = new ShadowWard(1024, row[0]);
            for (int b = 0; b < 3; b++) {
                w.allocate(0, 1, 0);
            }
            for (int b = 0; b < 3; b++) {
                check.yes("free", w.free(0, 272 + 48 * b, 0));
            }
            check.same("held with Q " + row[0], w.told(7), row[1]);
            check.same("bytes held with Q " + row[0], w.told(8), 48 * row[1]);
            for (int b = 0; b < 3; b++) {
                check.same("block " + b + " with Q " + row[0], w.block(b, 3), b < 3 - row[1] ? 2 : 1);
            }
        }
        ShadowWard great = new ShadowWard(1024, 100);
        great.allocate(0, 1, 0);
        great.allocate(0, 65, 0);
        great.free(0, 272, 0);
        great.free(0, 336, 0);
        check.same("a chunk above Q leaves, and all before it", great.told(7), 0);
        check.same("gone", great.block(1, 3), 2);
    }

    /** "What leaves it is GONE, its chunk's shadows become 250." */
    private static void goneChunkIsAboutBlocks() {
        ShadowWard w = new ShadowWard(1024, 48);
        w.allocate(0, 13, 0);
        w.allocate(0, 13, 0);
        w.free(0, 272, 0);
        check.shadows("in quarantine", w, 34, 253, 253);
        w.free(0, 320, 0);
        check.shadows("the oldest left", w, 32, 250, 250, 250, 250, 250, 250, 250, 250, 253, 253, 250, 250);
        check.same("no place", w.allocate(0, 1024, 0), NONE);
        check.shadows("so did the other", w, 40, 250, 250, 250, 250);
        check.bytes("its bytes stay", w, 319, 0, 190, 190);
    }
}
