/** The boundary cases that promises 10 to 18 name: a test for each sentence, which stands above it. */
public final class AccessesEdgesTest {
    private static final Check check = new Check("AccessesEdgesTest");
    private static final int NONE = ShadowWard.NONE;
    private static final int LEAST = Integer.MIN_VALUE;
    private static final int MOST = Integer.MAX_VALUE;
    private static final int[] ANY_ADDRESS = {LEAST, -1, 0, 20, 128, 272, 600, 1023, 1024, MOST};

    public static void main(String[] args) {
        loadTakesOneToEight();
        loadHasNoSignBelowEight();
        loadOfWhatIsWrong();
        storeTakesOneToEight();
        storeWritesTheLowestBytes();
        storeTellsWhetherItWasDone();
        fillTakesNothingToN();
        fillOfNothingIsDone();
        fillTakesTheLowestBits();
        fillTellsWhetherItWasDone();
        copyTakesNothingToN();
        copyOfNothingIsDone();
        copiesAreOfWhatWasBefore();
        copyOntoItselfIsWrongFirst();
        copyIsWrongByReadingThenWriting();
        lengthStopsAtTheFirstNothing();
        lengthReadsItsEndToo();
        textCopiesItsEnd();
        textIsWrongInItsOrder();
        compareTakesNothingToN();
        compareStopsAtTheFirstOther();
        compareReadsAThenB();
        lockTakesWholeGranules();
        lockTakesGoodGranules();
        lockTakesNothingToN();
        unlockTakesWholeGranules();
        unlockTakesLockedGranules();
        unlockTakesNothingToN();
        check.finish();
    }

    /** A ward with a global of 16 bytes at 0 and a block of 13 bytes at 272, given at site 7. */
    private static ShadowWard ward() {
        ShadowWard w = new ShadowWard(1024, 100);
        check.same("global", w.global(16), 0);
        check.same("block", w.allocate(0, 13, 7), 272);
        return w;
    }

    private static void write(ShadowWard w, int address, int... bytes) {
        for (int i = 0; i < bytes.length; i++) {
            check.yes("write " + (address + i), w.store(address + i, 1, bytes[i]));
        }
    }

    private static void report(ShadowWard w, String what, int... due) {
        check.report(what, w, w.told(6) - 1, due);
    }

    /** "n bytes (1 .. 8) ... IllegalArgumentException" of load. */
    private static void loadTakesOneToEight() {
        ShadowWard w = ward();
        for (int n : new int[] {LEAST, -1, 0, 9, MOST}) {
            for (int address : ANY_ADDRESS) {
                check.illegalArgument(w, "load(" + address + ", " + n + ")", () -> w.load(address, n));
            }
        }
        for (int n = 1; n <= 8; n++) {
            check.same("the last " + n, w.load(285 - n, n), 0xBEBEBEBEBEBEBEBEL >>> (64 - 8 * n));
            check.same("none is wrong", w.told(6), n - 1);
            check.same("one further", w.load(286 - n, n), 0);
            report(w, "one further", 1, 285, n, 0, 3, 0, 1, 1, 7, 0);
        }
    }

    /** "the lowest first, as a number without a sign below 8". */
    private static void loadHasNoSignBelowEight() {
        ShadowWard w = ward();
        w.fill(0, 8, 255);
        for (int n = 1; n <= 7; n++) {
            check.same(n + " bytes of 255", w.load(0, n), (1L << (8 * n)) - 1);
        }
        check.same("8 bytes of 255", w.load(0, 8), -1L);
        write(w, 0, 1, 2, 3, 4, 5, 6, 7, 128);
        check.same("the lowest first", w.load(0, 3), 0x030201L);
        check.same("the highest of 4", w.load(4, 4), 0x80070605L);
        check.same("8 bytes", w.load(0, 8), 0x8007060504030201L);
    }

    /** "0 when it is wrong". */
    private static void loadOfWhatIsWrong() {
        ShadowWard w = ward();
        check.same("behind a block, with good bytes before", w.load(278, 8), 0);
        check.same("no address", w.load(-1, 8), 0);
        w.free(0, 272, 8);
        check.same("freed, with bytes that are not 0", w.load(272, 4), 0);
        check.same("they are still there", w.peek(272), 190);
        check.same("each is reported", w.told(6), 3);
    }

    /** "The n lowest bytes (1 .. 8) of a number ... IllegalArgumentException" of store. */
    private static void storeTakesOneToEight() {
        ShadowWard w = ward();
        for (int n : new int[] {LEAST, -1, 0, 9, MOST}) {
            for (int address : ANY_ADDRESS) {
                check.illegalArgument(w, "store(" + address + ", " + n + ", 5)",
                    () -> Check.bit(w.store(address, n, 5)));
            }
        }
        for (int n = 1; n <= 8; n++) {
            check.yes("the last " + n, w.store(285 - n, n, n));
            check.no("one further", w.store(286 - n, n, n));
            report(w, "one further", 1, 285, n, 1, 3, 0, 1, 1, 7, 0);
        }
    }

    /** "The n lowest bytes ... of a number, the lowest first". */
    private static void storeWritesTheLowestBytes() {
        for (int n = 1; n <= 8; n++) {
            ShadowWard w = ward();
            w.fill(0, 16, 99);
            check.yes("store", w.store(3, n, 0xF8F7F6F5F4F3F2F1L));
            for (int i = 0; i < 16; i++) {
                int due = i >= 3 && i < 3 + n ? 0xF1 + i - 3 : 99;
                check.same(n + " bytes, byte " + i, w.peek(i), due);
            }
        }
    }

    /** "whether it was done" of store. */
    private static void storeTellsWhetherItWasDone() {
        ShadowWard w = ward();
        check.yes("done", w.store(8, 8, -1));
        check.no("not done", w.store(9, 8, 5));
        check.same("not even the good bytes", w.load(8, 8), -1);
        check.no("not done", w.store(-7, 8, 5));
        check.same("not even the last one", w.peek(0), 0);
    }

    /** "n bytes (0 .. N) ... IllegalArgumentException" of fill. */
    private static void fillTakesNothingToN() {
        ShadowWard w = ward();
        for (int n : new int[] {LEAST, -1, 1025, MOST}) {
            for (int address : ANY_ADDRESS) {
                check.illegalArgument(w, "fill(" + address + ", " + n + ", 5)",
                    () -> Check.bit(w.fill(address, n, 5)));
            }
        }
        check.no("N bytes are an access", w.fill(0, 1024, 5));
        report(w, "N bytes are an access", 7, 16, 1024, 1);
        check.yes("all of the stack", w.fill(128, 128, 5));
        check.no("one more", w.fill(128, 129, 6));
        check.bytes("all of it, and no more", w, 254, 5, 5, 0);
    }

    /** "whether it was done (with 0 it is)". */
    private static void fillOfNothingIsDone() {
        ShadowWard w = ward();
        for (int address : ANY_ADDRESS) {
            check.changesNothing(w, "fill(" + address + ", 0, 5)", () -> Check.bit(w.fill(address, 0, 5)), 1);
        }
    }

    /** "become v's lowest eight bits". */
    private static void fillTakesTheLowestBits() {
        ShadowWard w = ward();
        int[][] rows = {{0, 0}, {255, 255}, {256, 0}, {257, 1}, {-1, 255}, {-256, 0}, {LEAST, 0}, {MOST, 255},
            {128, 128}};
        for (int[] row : rows) {
            check.yes("fill", w.fill(4, 2, row[0]));
            check.bytes("with " + row[0], w, 3, 0, row[1], row[1], 0);
        }
    }

    /** "whether it was done" of fill. */
    private static void fillTellsWhetherItWasDone() {
        ShadowWard w = ward();
        check.yes("the last byte", w.fill(284, 1, 1));
        check.no("the byte behind it", w.fill(285, 1, 1));
        check.yes("a whole block", w.fill(272, 13, 3));
        check.no("one byte more", w.fill(272, 14, 4));
        check.no("one byte less before", w.fill(271, 14, 4));
        check.bytes("those are not done", w, 271, 0, 3, 3);
        check.bytes("those are not done", w, 284, 3, 0);
    }

    /** "n bytes (0 .. N) are copied ... IllegalArgumentException" of copy. */
    private static void copyTakesNothingToN() {
        ShadowWard w = ward();
        for (int n : new int[] {LEAST, -1, 1025, MOST}) {
            for (int address : ANY_ADDRESS) {
                check.illegalArgument(w, "copy of " + n, () -> Check.bit(w.copy(address, 0, n, false)));
                check.illegalArgument(w, "move of " + n, () -> Check.bit(w.copy(0, address, n, true)));
            }
        }
        check.no("N bytes are an access", w.copy(0, 0, 1024, true));
        report(w, "N bytes are an access", 7, 16, 1024, 0);
        check.no("N bytes onto themselves", w.copy(0, 0, 1024, false));
        report(w, "N bytes onto themselves", 13, 0, 1024, 1);
    }

    /** "n bytes (0 .. N) are copied": of 0 none is read or written, nor have both rows one together. */
    private static void copyOfNothingIsDone() {
        ShadowWard w = ward();
        for (int address : ANY_ADDRESS) {
            check.changesNothing(w, "to itself", () -> Check.bit(w.copy(address, address, 0, false)), 1);
            check.changesNothing(w, "to a global", () -> Check.bit(w.copy(3, address, 0, false)), 1);
            check.changesNothing(w, "to a block", () -> Check.bit(w.copy(address, 272, 0, true)), 1);
        }
    }

    /** "are copied, as they were before: whether it was done". */
    private static void copiesAreOfWhatWasBefore() {
        for (int apart = -8; apart <= 8; apart++) {
            ShadowWard w = new ShadowWard(1024, 0);
            w.global(24);
            for (int i = 0; i < 24; i++) {
                w.store(i, 1, 1 + i);
            }
            check.yes("move by " + apart, w.copy(8 + apart, 8, 8, true));
            for (int i = 0; i < 24; i++) {
                boolean written = i >= 8 + apart && i < 16 + apart;
                check.same("moved by " + apart + ", byte " + i, w.peek(i), written ? 1 + i - apart : 1 + i);
            }
            check.same("nothing is wrong", w.told(6), 0);
        }
    }

    /** "Wrong by 13 (at the address to), unless it may MOVE, if both rows have a byte together". */
    private static void copyOntoItselfIsWrongFirst() {
        ShadowWard w = ward();
        check.yes("8 apart, 8 bytes", w.copy(8, 0, 8, false));
        check.yes("8 apart, downward", w.copy(0, 8, 8, false));
        check.no("7 apart, 8 bytes", w.copy(7, 0, 8, false));
        report(w, "7 apart, 8 bytes", 13, 7, 8, 1, 1, 0, 0, 0, 0, 0);
        check.no("7 apart, downward", w.copy(1, 8, 8, false));
        report(w, "7 apart, downward", 13, 1, 8, 1, 1, 0, 0, 0, 0, 0);
        check.yes("7 apart, but it may move", w.copy(7, 0, 8, true));
        check.no("one byte onto itself", w.copy(5, 5, 1, false));
        report(w, "one byte onto itself", 13, 5, 1, 1, 1, 0, 0, 0, 0, 0);
        check.yes("one byte that may move", w.copy(5, 5, 1, true));
        check.no("before what is wrong to read", w.copy(280, 284, 8, false));
        report(w, "before what is wrong to read", 13, 280, 8, 1, 3, 0, 0, 0, 7, 0);
        check.no("the address to is about a block", w.copy(270, 274, 8, false));
        report(w, "the address to is about a block", 13, 270, 8, 1, 3, 0, 2, 2, 7, 0);
        check.no("the address to is none", w.copy(-2, 0, 8, false));
        report(w, "the address to is none", 13, -2, 8, 1, 0, NONE, 0, 0, 0, 0);
        check.same("reports", w.told(6), 6);
        check.no("far apart, at both ends of all numbers", w.copy(LEAST, MOST, 1024, false));
        report(w, "far apart, at both ends of all numbers", 9, MOST, 1024, 0);
    }

    /** "then by what is read, then by what is written". */
    private static void copyIsWrongByReadingThenWriting() {
        ShadowWard w = ward();
        check.no("both are wrong", w.copy(280, 10, 7, false));
        report(w, "both are wrong", 7, 16, 7, 0, 1, 0, 1, 1, 0, 0);
        check.no("to read is wrong by the last byte", w.copy(128, 10, 7, false));
        report(w, "to read is wrong by the last byte", 7, 16, 7, 0, 1, 0, 1, 1, 0, 0);
        check.no("to write is wrong by the last byte", w.copy(279, 0, 7, false));
        report(w, "to write is wrong by the last byte", 1, 285, 7, 1, 3, 0, 1, 1, 7, 0);
        check.no("a move that is wrong both ways", w.copy(12, 10, 7, true));
        report(w, "a move that is wrong both ways", 7, 16, 7, 0, 1, 0, 1, 1, 0, 0);
        check.no("a move that is wrong to write", w.copy(12, 9, 7, true));
        report(w, "a move that is wrong to write", 7, 16, 7, 1, 1, 0, 1, 1, 0, 0);
        check.yes("up to the last byte", w.copy(278, 9, 7, false));
        check.same("one report each", w.told(6), 5);
        check.bytes("only the last was done", w, 277, 190, 0, 0, 0, 0, 0, 0, 0, 0);
        check.bytes("nothing elsewhere", w, 128, 0, 0);
    }

    /** "How many bytes from an address on are not 0 before the first that is". */
    private static void lengthStopsAtTheFirstNothing() {
        ShadowWard w = ward();
        check.same("0 at once", w.length(0), 0);
        write(w, 0, 1, 255, 128, 0, 5);
        check.same("3", w.length(0), 3);
        check.same("2", w.length(1), 2);
        check.same("1", w.length(2), 1);
        check.same("0", w.length(3), 0);
        check.same("another row", w.length(4), 1);
        w.fill(128, 127, 9);
        check.same("127, to the last of the stack", w.length(128), 127);
        check.same("nothing is wrong", w.told(6), 0);
    }

    /** "each is read, that one, too; NONE when one is wrong". */
    private static void lengthReadsItsEndToo() {
        ShadowWard w = ward();
        check.same("a row without an end", w.length(272), NONE);
        report(w, "a row without an end", 1, 285, 1, 0, 3, 0, 1, 1, 7, 0);
        check.same("though a 0 is behind it", w.peek(285), 0);
        w.store(284, 1, 0);
        check.same("its last byte is the end", w.length(272), 12);
        w.fill(0, 16, 1);
        w.lock(8, 8);
        check.same("a locked byte", w.length(3), NONE);
        report(w, "a locked byte", 8, 8, 1, 0, 1, 0, 0, 0, 0, 0);
        w.store(7, 1, 0);
        check.same("the end before it", w.length(3), 4);
        check.same("the first one is wrong", w.length(16), NONE);
        report(w, "the first one is wrong", 7, 16, 1, 0, 1, 0, 1, 1, 0, 0);
        for (int address : new int[] {LEAST, -1, 1024, MOST}) {
            check.same("no address", w.length(address), NONE);
            report(w, "no address", 9, address, 1, 0, 0, NONE, 0, 0, 0, 0);
        }
        w.fill(128, 128, 1);
        check.same("out of the stack", w.length(128), NONE);
        report(w, "out of the stack", 1, 256, 1, 0, 3, 0, 16, 2, 7, 0);
        check.same("reports", w.told(6), 8);
    }

    /** "A row of bytes as of length(), and its 0, are copied: its length". */
    private static void textCopiesItsEnd() {
        ShadowWard w = ward();
        write(w, 0, 1, 2, 3);
        check.same("into the block", w.text(272, 0), 3);
        check.bytes("into the block", w, 271, 0, 1, 2, 3, 0, 190);
        check.same("an empty one", w.text(275, 3), 0);
        check.same("just that end", w.text(272, 3), 0);
        check.bytes("just that end", w, 271, 0, 0, 2, 3, 0, 190);
        check.same("to the last bytes of the block", w.text(281, 0), 3);
        check.bytes("to the last bytes of the block", w, 280, 190, 1, 2, 3, 0, 0);
        check.same("rows that touch", w.text(4, 0), 3);
        check.bytes("rows that touch", w, 0, 1, 2, 3, 0, 1, 2, 3, 0, 0);
        check.same("nothing is wrong", w.told(6), 0);
    }

    /** "NONE when it is wrong: by length(), then as by copy() without moving, of the length and one more". */
    private static void textIsWrongInItsOrder() {
        ShadowWard w = ward();
        write(w, 0, 1, 2, 3);
        check.same("by length, before onto itself", w.text(273, 272), NONE);
        report(w, "by length, before onto itself", 1, 285, 1, 0, 3, 0, 1, 1, 7, 0);
        check.same("by length, before writing", w.text(-1, 272), NONE);
        report(w, "by length, before writing", 1, 285, 1, 0, 3, 0, 1, 1, 7, 0);
        check.same("onto itself by its end", w.text(3, 0), NONE);
        report(w, "onto itself by its end", 13, 3, 4, 1, 1, 0, 0, 0, 0, 0);
        check.same("onto itself, downward", w.text(-3, 0), NONE);
        report(w, "onto itself, downward", 13, -3, 4, 1, 0, NONE, 0, 0, 0, 0);
        check.same("an empty one onto itself", w.text(3, 3), NONE);
        report(w, "an empty one onto itself", 13, 3, 1, 1, 1, 0, 0, 0, 0, 0);
        check.same("its end is wrong to write", w.text(282, 0), NONE);
        report(w, "its end is wrong to write", 1, 285, 4, 1, 3, 0, 1, 1, 7, 0);
        check.same("downward, not together, to no address", w.text(-4, 0), NONE);
        report(w, "downward, not together, to no address", 9, -4, 4, 1, 0, NONE, 0, 0, 0, 0);
        check.bytes("nothing is done", w, 281, 190, 190, 190, 190, 0);
        check.bytes("nothing is done", w, 0, 1, 2, 3, 0, 0);
        check.same("one report each", w.told(6), 7);
    }

    /** "n pairs of bytes (0 .. N) are read ... IllegalArgumentException" of compare. */
    private static void compareTakesNothingToN() {
        ShadowWard w = ward();
        for (int n : new int[] {LEAST, -1, 1025, MOST}) {
            for (int address : ANY_ADDRESS) {
                check.illegalArgument(w, "compare of " + n, () -> w.compare(address, 0, n));
            }
        }
        for (int address : ANY_ADDRESS) {
            check.changesNothing(w, "0 pairs", () -> w.compare(address, 0, 0), 0);
            check.changesNothing(w, "0 pairs", () -> w.compare(0, address, 0), 0);
        }
        check.same("N pairs", w.compare(0, 0, 1024), 2);
        report(w, "N pairs", 7, 16, 1, 0, 1, 0, 1, 1, 0, 0);
    }

    /** "as long as they are the same: -1, 1 when that of a is less, greater; 0". */
    private static void compareStopsAtTheFirstOther() {
        ShadowWard w = ward();
        write(w, 0, 7, 7, 0, 255, 1, 0);
        write(w, 8, 7, 7, 0, 127, 2, 0);
        check.same("the same", w.compare(0, 8, 3), 0);
        check.same("255 is greater than 127", w.compare(0, 8, 4), 1);
        check.same("127 is less than 255", w.compare(8, 0, 4), -1);
        check.same("later ones do not matter", w.compare(0, 8, 5), 1);
        check.same("a 0 is no end", w.compare(2, 10, 2), 1);
        check.same("itself", w.compare(0, 0, 16), 0);
        check.same("wrong ones behind it are not read", w.compare(8, 0, 1024), -1);
        check.same("nothing is wrong", w.told(6), 0);
        write(w, 15, 1);
        check.same("the last good pair tells", w.compare(15, 14, 9), 1);
        check.same("nothing is wrong", w.told(6), 0);
    }

    /** "are read, of a first, then of b ... 2 when one is wrong". */
    private static void compareReadsAThenB() {
        ShadowWard w = ward();
        check.same("both are wrong", w.compare(16, 285, 1), 2);
        report(w, "both are wrong", 7, 16, 1, 0, 1, 0, 1, 1, 0, 0);
        check.same("that of b is wrong", w.compare(0, 285, 1), 2);
        report(w, "that of b is wrong", 1, 285, 1, 0, 3, 0, 1, 1, 7, 0);
        w.fill(0, 16, 190);
        check.same("b ends first", w.compare(0, 280, 10), 2);
        report(w, "b ends first", 1, 285, 1, 0, 3, 0, 1, 1, 7, 0);
        check.same("a ends first", w.compare(12, 272, 10), 2);
        report(w, "a ends first", 7, 16, 1, 0, 1, 0, 1, 1, 0, 0);
        check.same("both end at once", w.compare(12, 281, 10), 2);
        report(w, "both end at once", 7, 16, 1, 0, 1, 0, 1, 1, 0, 0);
        check.same("just before", w.compare(12, 281, 4), 0);
        check.same("no addresses", w.compare(MOST, LEAST, 5), 2);
        report(w, "no addresses", 9, MOST, 1, 0, 0, NONE, 0, 0, 0, 0);
        check.same("one report each", w.told(6), 6);
    }

    private static final int[][] WHOLE = {{136, 8, 1}, {136, 7, 0}, {137, 7, 0}, {135, 8, 0}, {135, 9, 1},
        {137, 14, 0}, {137, 15, 1}, {136, 16, 2}, {136, 15, 1}, {136, 17, 2}, {129, 22, 1}, {129, 23, 2}};

    /** "Granules that lie whole in n bytes (0 .. N) from an address on". */
    private static void lockTakesWholeGranules() {
        for (int[] row : WHOLE) {
            ShadowWard w = ward();
            String what = "lock(" + row[0] + ", " + row[1] + ")";
            check.same(what, w.lock(row[0], row[1]), row[2]);
            int first = (row[0] + 7) / 8;
            for (int g = 16; g < 20; g++) {
                boolean locked = g >= first && g < first + row[2];
                check.same(what + ", granule " + g, w.shadow(g), locked ? 247 : 0);
            }
            check.same(what + ", good ones", w.told(10), 128 + 16 + 13 - 8 * row[2]);
        }
    }

    /** "and have the shadow 0 get 247: how many". */
    private static void lockTakesGoodGranules() {
        ShadowWard w = ward();
        w.enter(24, 0, 0, 0);
        check.same("a global's two, not what is about it", w.lock(0, 128), 2);
        check.shadows("a global's two", w, 0, 247, 247, 249);
        check.same("the block's first, not its last", w.lock(256, 768), 1);
        check.shadows("the block's first", w, 33, 250, 247, 5, 250);
        check.same("the variable's three, and four below the frame", w.lock(128, 128), 7);
        check.shadows("the stack", w, 16, 247, 247, 247, 247, 241, 241, 241, 241, 247, 247, 247, 243);
        check.changesNothing(w, "locked ones are not locked again", () -> w.lock(0, 1024), 0);
        check.same("good ones", w.told(10), 5);
        check.same("locks do not change bytes", w.peek(272), 190);
    }

    /** "n bytes (0 .. N) ... IllegalArgumentException (also when some of the bytes are no addresses)" of lock. */
    private static void lockTakesNothingToN() {
        ShadowWard w = ward();
        for (int n : new int[] {LEAST, -1, 1025, MOST}) {
            for (int address : ANY_ADDRESS) {
                check.illegalArgument(w, "lock(" + address + ", " + n + ")", () -> w.lock(address, n));
            }
        }
        int[][] rows = {{-1, 1}, {-1, 1024}, {-8, 16}, {1, 1024}, {1017, 8}, {1023, 2}, {1024, 1}, {MOST, 1},
            {MOST, 1024}, {MOST - 7, 8}, {LEAST, 1}, {LEAST, 1024}};
        for (int[] row : rows) {
            check.illegalArgument(w, "lock at " + row[0], () -> w.lock(row[0], row[1]));
        }
        for (int address : ANY_ADDRESS) {
            check.changesNothing(w, "no bytes at " + address, () -> w.lock(address, 0), 0);
        }
        check.changesNothing(w, "the last bytes", () -> w.lock(1016, 8), 0);
        check.changesNothing(w, "the last byte", () -> w.lock(1023, 1), 0);
        check.same("N bytes", w.lock(0, 1024), 2 + 16 + 1);
    }

    /** "Granules that lie whole in these" of unlock. */
    private static void unlockTakesWholeGranules() {
        for (int[] row : WHOLE) {
            ShadowWard w = ward();
            w.lock(128, 32);
            String what = "unlock(" + row[0] + ", " + row[1] + ")";
            check.same(what, w.unlock(row[0], row[1]), row[2]);
            int first = (row[0] + 7) / 8;
            for (int g = 16; g < 20; g++) {
                boolean locked = g < first || g >= first + row[2];
                check.same(what + ", granule " + g, w.shadow(g), locked ? 247 : 0);
            }
        }
    }

    /** "and have the shadow 247 get 0: how many". */
    private static void unlockTakesLockedGranules() {
        ShadowWard w = ward();
        w.enter(24, 0, 0, 0);
        check.changesNothing(w, "none is locked", () -> w.unlock(0, 1024), 0);
        w.lock(8, 8);
        w.lock(272, 8);
        check.same("those two", w.unlock(0, 1024), 2);
        check.shadows("the global's", w, 0, 0, 0, 249);
        check.shadows("the block's", w, 33, 250, 0, 5, 250);
        check.yes("good again", w.fill(272, 13, 1));
        w.lock(272, 8);
        w.free(0, 272, 0);
        check.changesNothing(w, "a freed one is not locked any more", () -> w.unlock(272, 16), 0);
        w.lock(192, 8);
        w.scope(0, 0, false);
        check.changesNothing(w, "nor is one out of scope", () -> w.unlock(192, 8), 0);
        w.leave();
        check.changesNothing(w, "nor one that was left", () -> w.unlock(192, 8), 0);
    }

    /** "IllegalArgumentException likewise" of unlock. */
    private static void unlockTakesNothingToN() {
        ShadowWard w = ward();
        w.lock(0, 1024);
        for (int n : new int[] {LEAST, -1, 1025, MOST}) {
            for (int address : ANY_ADDRESS) {
                check.illegalArgument(w, "unlock(" + address + ", " + n + ")", () -> w.unlock(address, n));
            }
        }
        int[][] rows = {{-1, 1}, {-1, 1024}, {-8, 16}, {1, 1024}, {1017, 8}, {1023, 2}, {1024, 1}, {MOST, 1},
            {MOST, 1024}, {MOST - 7, 8}, {LEAST, 1}, {LEAST, 1024}};
        for (int[] row : rows) {
            check.illegalArgument(w, "unlock at " + row[0], () -> w.unlock(row[0], row[1]));
        }
        for (int address : ANY_ADDRESS) {
            check.changesNothing(w, "no bytes at " + address, () -> w.unlock(address, 0), 0);
        }
        check.changesNothing(w, "the last bytes", () -> w.unlock(1016, 8), 0);
        check.changesNothing(w, "the last byte", () -> w.unlock(1023, 1), 0);
        check.same("N bytes", w.unlock(0, 1024), 2 + 16 + 1);
    }
}
