import java.util.Random;

/** What holds for every call: its face, its limits, and that the machine itself never throws. */
public final class LimitsTest {
    private static final Check check = new Check("LimitsTest");

    public static void main(String[] args) {
        theFaceIsTheDocuments();
        reportsOfAWholeRunAreKept();
        blocksOfAWholeRunAreKept();
        objectsAreApart();
        for (int seed = 0; seed < 100; seed++) {
            anyNumbersAreAnswered(seed);
        }
        check.finish();
    }

    private static void theFaceIsTheDocuments() {
        String[] names = {"global", "enter", "leave", "scope", "variable", "allocate", "free", "resize", "load",
            "store", "fill", "copy", "length", "text", "compare", "lock", "unlock", "report", "block", "shadow",
            "peek", "held", "lost", "told"};
        int found = 0;
        for (java.lang.reflect.Method method : ShadowWard.class.getDeclaredMethods()) {
            boolean named = java.util.Arrays.asList(names).contains(method.getName());
            boolean seen = !java.lang.reflect.Modifier.isPrivate(method.getModifiers());
            check.same(method + " is seen as the document says", Check.bit(seen), Check.bit(named));
            found += seen ? 1 : 0;
        }
        check.same("methods", found, names.length);
        check.same("constructors", ShadowWard.class.getDeclaredConstructors().length, 1);
        check.same("constants", ShadowWard.class.getFields().length, 1);
        for (java.lang.reflect.Field field : ShadowWard.class.getDeclaredFields()) {
            boolean hidden = java.lang.reflect.Modifier.isPrivate(field.getModifiers());
            check.same(field + " is hidden", Check.bit(hidden), Check.bit(!field.getName().equals("NONE")));
        }
        check.yes("final", java.lang.reflect.Modifier.isFinal(ShadowWard.class.getModifiers()));
    }

    private static void reportsOfAWholeRunAreKept() {
        ShadowWard w = new ShadowWard(1024, 0);
        for (int i = 0; i < 510; i++) {
            check.no("store", w.store(-5 - i, 1, 0));
        }
        check.same("reports", w.told(6), 510);
        check.same("the last one", w.report(509, 1), -514);
    }

    private static void blocksOfAWholeRunAreKept() {
        ShadowWard w = new ShadowWard(1024, 1024);
        int at = ShadowWard.NONE;
        for (int i = 0; i < 510; i++) {
            at = w.resize(at, 8, i);
            check.no("resize", at == ShadowWard.NONE);
        }
        check.same("blocks", w.told(4), 510);
        check.same("the last one", w.block(509, 6), 509);
    }

    private static void objectsAreApart() {
        ShadowWard one = new ShadowWard(1024, 0);
        String before = Check.stateOf(new ShadowWard(1024, 0));
        ShadowWard two = new ShadowWard(1024, 0);
        one.global(5);
        one.enter(5, 0, 0, 0);
        one.allocate(0, 5, 5);
        one.load(-1, 1);
        check.yes("the other one is as new", before.equals(Check.stateOf(two)));
    }

    private static int any(Random random, int n) {
        int[] edges = {Integer.MIN_VALUE, Integer.MIN_VALUE + 1, -n, -8, -1, 0, 1, 7, 8, n - 8, n - 1, n, n + 1,
            Integer.MAX_VALUE - 7, Integer.MAX_VALUE};
        switch (random.nextInt(4)) {
            case 0: return edges[random.nextInt(edges.length)];
            case 1: return random.nextInt(5);
            case 2: return random.nextInt(n + 1);
            default: return 16 * random.nextInt(n / 16);
        }
    }

    // Far more than 512 calls: then answers are free, but still nothing else may be thrown.
    private static void anyNumbersAreAnswered(int seed) {
        Random random = new Random(seed);
        ShadowWard w = new ShadowWard(any(random, 4096), any(random, 1024));
        int n = w.told(0);
        for (int call = 0; call < 3000; call++) {
            int which = random.nextInt(24);
            int[] x = {any(random, n), any(random, n), any(random, n), any(random, n)};
            try {
                make(w, which, x, random.nextBoolean(), random.nextLong());
            } catch (RuntimeException e) {
                boolean known = e.getClass() == IllegalArgumentException.class
                    || e.getClass() == IndexOutOfBoundsException.class
                    || e.getClass() == IllegalStateException.class;
                boolean own = known && Check.isThrownByTheWard(e);
                check.yes("seed " + seed + ", call " + call + " of " + which + ": " + e, own);
            }
        }
        check.yes("reports are limited", w.told(6) <= 512);
        check.yes("blocks are limited", w.told(4) <= 512);
    }

    private static void make(ShadowWard w, int which, int[] x, boolean flag, long value) {
        switch (which) {
            case 0: w.global(x[0]); break;
            case 1: w.enter(x[0], x[1], x[2] & 127, x[3] & 127); break;
            case 2: w.leave(); break;
            case 3: w.scope(x[0], x[1], flag); break;
            case 4: w.variable(x[0], x[1]); break;
            case 5: w.allocate(x[0] & 1, x[1], x[2]); break;
            case 6: w.free(x[0], x[1], x[2]); break;
            case 7: w.resize(x[0], x[1], x[2]); break;
            case 8: w.load(x[0], x[1]); break;
            case 9: w.store(x[0], x[1], value); break;
            case 10: w.fill(x[0], x[1], x[2]); break;
            case 11: w.copy(x[0], x[1], x[2], flag); break;
            case 12: w.length(x[0]); break;
            case 13: w.text(x[0], x[1]); break;
            case 14: w.compare(x[0], x[1], x[2]); break;
            case 15: w.lock(x[0], x[1]); break;
            case 16: w.unlock(x[0], x[1]); break;
            case 17: w.report(x[0], x[1]); break;
            case 18: w.block(x[0], x[1]); break;
            case 19: w.shadow(x[0]); break;
            case 20: w.peek(x[0]); break;
            case 21: w.held(x[0]); break;
            case 22: w.lost(x[0], flag); break;
            default: w.told(x[0]);
        }
    }
}
