import java.util.Random;

/** Runs of 512 calls each, with numbers near the edges, compared call by call with PlainModel. */
public final class ModelTest {
    private static final Check check = new Check("ModelTest");
    private static final int RUNS = 1500;
    private static final int CALLS = 512;
    private static final String[] NAMES = {"global", "enter", "leave", "scope", "variable", "allocate", "free",
        "resize", "load", "store", "fill", "copy", "length", "text", "compare", "lock", "unlock", "report",
        "block", "shadow", "peek", "held", "lost", "told"};
    // How often each of them is called; what is told last costs the model most.
    private static final int[] WEIGHTS = {2, 5, 2, 6, 2, 14, 10, 6, 8, 16, 6, 8, 4, 4, 4, 3, 2, 14, 5, 8, 6, 2, 3, 5};

    private final Random random;
    private final ShadowWard ward;
    private final PlainModel model;
    private final int n;
    // Ints of the call that is made next, so that a wrong answer can be told with them.
    private final int[] x = new int[4];
    private boolean flag;
    private long value;

    private ModelTest(int seed) {
        random = new Random(seed);
        int size = random.nextInt(4) == 0 ? random.nextInt(10000) : 64 * (16 + random.nextInt(20));
        int q = random.nextInt(3) == 0 ? random.nextInt(8192) - 10 : random.nextInt(500);
        ward = new ShadowWard(size, q);
        model = new PlainModel(size, q);
        n = told(0);
    }

    public static void main(String[] args) {
        for (int seed = 0; seed < RUNS && check.wrong() == 0; seed++) {
            new ModelTest(seed).run(seed);
        }
        check.finish();
    }

    private void run(int seed) {
        for (int call = 1; call <= CALLS && check.wrong() == 0; call++) {
            int which = pick();
            chooseNumbers(which);
            String text = "run " + seed + ", call " + call + ": " + NAMES[which] + "(" + x[0] + ", " + x[1]
                + ", " + x[2] + ", " + x[3] + ", " + flag + ", " + value + ")";
            check.same(text, answer(which), due(which));
        }
    }

    private int pick() {
        int sum = 0;
        for (int w : WEIGHTS) {
            sum += w;
        }
        int at = random.nextInt(sum);
        int which = 0;
        while (at >= WEIGHTS[which]) {
            at -= WEIGHTS[which];
            which++;
        }
        return which;
    }

    private int oneOf(int... numbers) {
        return numbers[random.nextInt(numbers.length)];
    }

    private int odd() {
        return oneOf(-1, -2, Integer.MIN_VALUE, Integer.MAX_VALUE, n, n + 1, n - 1, 9, 129, 513);
    }

    private int upTo(int most) {
        return random.nextInt(40) == 0 ? odd() : random.nextInt(most + 1);
    }

    private int site() {
        return random.nextInt(5) == 0 ? odd() : random.nextInt(1000);
    }

    // Asks the model, so that the ward gets no more calls than the document allows.
    private int told(int what) {
        return (int) model.told(what);
    }

    private int blockAddress() {
        int blocks = told(4);
        // The younger ones more often, for the older ones are mostly gone.
        int least = random.nextInt(4) == 0 ? 0 : Math.max(0, blocks - 12);
        return blocks == 0 ? n / 4 + 16 : (int) model.block(least + random.nextInt(blocks - least), 0);
    }

    private int regionAddress() {
        int frames = told(3);
        if (random.nextInt(3) == 0) {
            return 32 * random.nextInt(n / 8 / 32);
        }
        if (frames > 0 && random.nextInt(2) == 0) {
            return (int) model.variable(random.nextInt(frames), 0);
        }
        return blockAddress();
    }

    private int address() {
        switch (random.nextInt(12)) {
            case 0: return odd();
            case 1: return random.nextInt(n);
            case 2: return oneOf(n / 8, n / 4, n) + random.nextInt(9) - 4;
            case 3: return regionAddress() + random.nextInt(80) - 40;
            case 4: return regionAddress() + 4 * random.nextInt(4);
            default: return regionAddress() + random.nextInt(8);
        }
    }

    private int blockSize() {
        return random.nextInt(5) == 0 ? oneOf(0, 1, 16, 64, 65, 256, 257, 1024, 1025, n, n / 3) : upTo(60);
    }

    private void chooseNumbers(int which) {
        for (int i = 0; i < 4; i++) {
            x[i] = 0;
        }
        flag = random.nextBoolean();
        value = random.nextLong();
        switch (NAMES[which]) {
            case "global":
                x[0] = upTo(60);
                break;
            case "enter":
                for (int i = 0; i < 4; i++) {
                    x[i] = random.nextInt(3) == 0 ? upTo(60) : 0;
                }
                break;
            case "scope":
            case "variable":
                x[0] = random.nextInt(4) == 0 ? upTo(3) : Math.max(0, told(3) - 1);
                x[1] = random.nextInt(4) == 0 ? upTo(3) : 0;
                break;
            case "allocate":
                x[0] = random.nextInt(30) == 0 ? odd() : random.nextInt(2);
                x[1] = blockSize();
                x[2] = site();
                break;
            case "free":
                x[0] = random.nextInt(30) == 0 ? odd() : random.nextInt(2);
                x[1] = random.nextInt(6) == 0 ? address() : blockAddress();
                x[2] = site();
                break;
            case "resize":
                x[0] = random.nextInt(6) == 0 ? address() : blockAddress();
                x[1] = blockSize();
                x[2] = site();
                break;
            default:
                chooseForAccess(which);
        }
    }

    private void chooseForAccess(int which) {
        switch (NAMES[which]) {
            case "load":
                x[0] = address();
                x[1] = upTo(8);
                break;
            case "store":
                x[0] = random.nextInt(3) == 0 ? address() : regionAddress() + 4 * random.nextInt(3);
                x[1] = random.nextInt(3) == 0 ? upTo(8) : 4;
                value = random.nextInt(4) == 0 ? value : blockAddress() + random.nextInt(20) - 4;
                break;
            case "fill":
                x[0] = address();
                x[1] = upTo(40);
                x[2] = random.nextInt(3) == 0 ? 0 : random.nextInt(600) - 300;
                break;
            case "copy":
            case "compare":
                x[0] = address();
                x[1] = random.nextInt(4) == 0 ? x[0] + random.nextInt(9) - 4 : address();
                x[2] = upTo(30);
                break;
            case "length":
            case "text":
                x[0] = address();
                x[1] = address();
                break;
            case "lock":
            case "unlock":
                x[0] = address();
                x[1] = upTo(100);
                break;
            case "report":
                x[0] = random.nextInt(10) == 0 ? upTo(20) : told(6) - 1;
                x[1] = upTo(9);
                break;
            case "block":
                x[0] = upTo(Math.max(1, told(4)));
                x[1] = upTo(7);
                break;
            case "shadow":
                x[0] = random.nextInt(3) == 0 ? upTo(n / 8) : address() / 8;
                break;
            case "peek":
                x[0] = address();
                break;
            case "held":
                x[0] = upTo(Math.max(1, told(7)));
                break;
            case "lost":
                x[0] = upTo(Math.max(1, told(4)));
                break;
            case "told":
                x[0] = upTo(11);
                break;
            default:
        }
    }

    private long answer(int which) {
        try {
            return wardAnswer(which);
        } catch (RuntimeException e) {
            // Of the very classes: what the machine throws is of others.
            if (e.getClass() == IllegalArgumentException.class) {
                return PlainModel.ARGUMENT;
            }
            if (e.getClass() == IndexOutOfBoundsException.class) {
                return PlainModel.INDEX;
            }
            if (e.getClass() == IllegalStateException.class) {
                return PlainModel.STATE;
            }
            check.fail(NAMES[which] + " threw " + e);
            return 0;
        }
    }

    private long wardAnswer(int which) {
        switch (which) {
            case 0: return ward.global(x[0]);
            case 1: return ward.enter(x[0], x[1], x[2], x[3]);
            case 2: return ward.leave();
            case 3: return Check.bit(ward.scope(x[0], x[1], flag));
            case 4: return ward.variable(x[0], x[1]);
            case 5: return ward.allocate(x[0], x[1], x[2]);
            case 6: return Check.bit(ward.free(x[0], x[1], x[2]));
            case 7: return ward.resize(x[0], x[1], x[2]);
            case 8: return ward.load(x[0], x[1]);
            case 9: return Check.bit(ward.store(x[0], x[1], value));
            case 10: return Check.bit(ward.fill(x[0], x[1], x[2]));
            case 11: return Check.bit(ward.copy(x[0], x[1], x[2], flag));
            case 12: return ward.length(x[0]);
            case 13: return ward.text(x[0], x[1]);
            case 14: return ward.compare(x[0], x[1], x[2]);
            case 15: return ward.lock(x[0], x[1]);
            case 16: return ward.unlock(x[0], x[1]);
            case 17: return ward.report(x[0], x[1]);
            case 18: return ward.block(x[0], x[1]);
            case 19: return ward.shadow(x[0]);
            case 20: return ward.peek(x[0]);
            case 21: return ward.held(x[0]);
            case 22: return ward.lost(x[0], flag);
            default: return ward.told(x[0]);
        }
    }

    private long due(int which) {
        switch (which) {
            case 0: return model.global(x[0]);
            case 1: return model.enter(x);
            case 2: return model.leave();
            case 3: return model.scope(x[0], x[1], flag);
            case 4: return model.variable(x[0], x[1]);
            case 5: return model.allocate(x[0], x[1], x[2]);
            case 6: return model.free(x[0], x[1], x[2]);
            case 7: return model.resize(x[0], x[1], x[2]);
            case 8: return model.load(x[0], x[1]);
            case 9: return model.store(x[0], x[1], value);
            case 10: return model.fill(x[0], x[1], x[2]);
            case 11: return model.copy(x[0], x[1], x[2], flag);
            case 12: return model.length(x[0]);
            case 13: return model.text(x[0], x[1]);
            case 14: return model.compare(x[0], x[1], x[2]);
            case 15: return model.exchange(x[0], x[1], 0, 247);
            case 16: return model.exchange(x[0], x[1], 247, 0);
            case 17: return model.report(x[0], x[1]);
            case 18: return model.block(x[0], x[1]);
            case 19: return model.shadow(x[0]);
            case 20: return model.peek(x[0]);
            case 21: return model.held(x[0]);
            case 22: return model.lost(x[0], flag);
            default: return model.told(x[0]);
        }
    }
}
