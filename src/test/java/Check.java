/** Counts and prints the answers that are not as due; each test has one and ends with finish(). */
final class Check {
    /** A call whose answer, or whose exception, is looked at; a boolean answers 1 or 0. */
    interface Call {
        long answer();
    }

    private final String test;
    private int looked = 0;
    private int wrong = 0;

    Check(String test) {
        this.test = test;
    }

    static long bit(boolean b) {
        return b ? 1 : 0;
    }

    void same(String what, long got, long due) {
        looked++;
        if (got != due) {
            fail(what + " answered " + got + ", due is " + due);
        }
    }

    void yes(String what, boolean got) {
        same(what, bit(got), 1);
    }

    void no(String what, boolean got) {
        same(what, bit(got), 0);
    }

    /** One report, its ten answers in a row. */
    void report(String what, ShadowWard ward, int i, int... due) {
        for (int k = 0; k < due.length; k++) {
            same(what + ": report(" + i + ", " + k + ")", ward.report(i, k), due[k]);
        }
    }

    void shadows(String what, ShadowWard ward, int first, int... due) {
        for (int k = 0; k < due.length; k++) {
            same(what + ": shadow(" + (first + k) + ")", ward.shadow(first + k), due[k]);
        }
    }

    void bytes(String what, ShadowWard ward, int address, int... due) {
        for (int k = 0; k < due.length; k++) {
            same(what + ": peek(" + (address + k) + ")", ward.peek(address + k), due[k]);
        }
    }

    /** One block, its eight answers in a row. */
    void block(String what, ShadowWard ward, int number, int... due) {
        for (int k = 0; k < due.length; k++) {
            same(what + ": block(" + number + ", " + k + ")", ward.block(number, k), due[k]);
        }
    }

    /** A call that is answered, but leaves everything as it was. */
    void changesNothing(ShadowWard ward, String what, Call call, long due) {
        String before = stateOf(ward);
        same(what, call.answer(), due);
        if (!before.equals(stateOf(ward))) {
            fail(what + " changed something");
        }
    }

    void illegalArgument(ShadowWard ward, String what, Call call) {
        refused(ward, what, call, IllegalArgumentException.class);
    }

    void noSuch(ShadowWard ward, String what, Call call) {
        refused(ward, what, call, IndexOutOfBoundsException.class);
    }

    void illegalState(ShadowWard ward, String what, Call call) {
        refused(ward, what, call, IllegalStateException.class);
    }

    /** Whether a throw statement of the class made it, and not the library that the class uses. */
    static boolean isThrownByTheWard(RuntimeException e) {
        StackTraceElement[] trace = e.getStackTrace();
        return trace.length > 0 && trace[0].getClassName().startsWith("ShadowWard");
    }

    // Of the very class, for what the machine throws is of classes below these; and nothing may be changed.
    private void refused(ShadowWard ward, String what, Call call, Class<?> due) {
        looked++;
        String before = stateOf(ward);
        try {
            fail(what + " answered " + call.answer() + ", due is " + due.getName());
        } catch (RuntimeException e) {
            if (!isThrownByTheWard(e) || e.getClass() != due) {
                fail(what + " threw " + e + ", due is " + due.getName() + " by a throw of the class");
            }
        }
        if (!before.equals(stateOf(ward))) {
            fail(what + " threw and changed something");
        }
    }

    // More than 512 calls, the answers to which the document leaves free: the class goes on as before.
    /** All that the calls of the last part tell. */
    static String stateOf(ShadowWard ward) {
        StringBuilder all = new StringBuilder();
        for (int what = 0; what <= 11; what++) {
            all.append(ward.told(what)).append(' ');
        }
        int n = ward.told(0);
        for (int a = 0; a < n; a++) {
            all.append(ward.peek(a)).append(' ');
        }
        for (int g = 0; g < n / 8; g++) {
            all.append(ward.shadow(g)).append(' ');
        }
        for (int b = 0; b < ward.told(4); b++) {
            for (int what = 0; what <= 7; what++) {
                all.append(ward.block(b, what)).append(' ');
            }
            all.append(ward.lost(b, false)).append(' ').append(ward.lost(b, true)).append(' ');
        }
        for (int i = 0; i < ward.told(7); i++) {
            all.append(ward.held(i)).append(' ');
        }
        for (int i = 0; i < ward.told(6); i++) {
            for (int what = 0; what <= 9; what++) {
                all.append(ward.report(i, what)).append(' ');
            }
        }
        return all.toString();
    }

    void fail(String text) {
        wrong++;
        if (wrong <= 50) {
            System.out.println(test + ": " + text);
        }
    }

    int wrong() {
        return wrong;
    }

    void finish() {
        System.out.println(test + ": " + looked + " looked at, " + wrong + " wrong");
        if (wrong != 0) {
            System.exit(1);
        }
    }
}
