import java.util.ArrayList;
import java.util.List;

/**
 * The document once more, in the plainest and slowest form, for ModelTest to compare with. It shares no
 * line and no idea with the program: it keeps no counts, looks at every region anew, and throws nothing;
 * a call that would throw answers one of the numbers below.
 */
final class PlainModel {
    static final long ARGUMENT = Long.MIN_VALUE + 11;
    static final long INDEX = Long.MIN_VALUE + 12;
    static final long STATE = Long.MIN_VALUE + 13;

    private static final class Piece {
        int type;
        int number;
        int from;
        int to;
        boolean in = true;
        int kind;
        int state;
        int chunkFrom;
        int chunkTo;
        int given;
        int freed;

        Piece(int type, int number, int from, int to) {
            this.type = type;
            this.number = number;
            this.from = from;
            this.to = to;
        }
    }

    private final int n;
    private final int q;
    private final int[] memory;
    private final int[] shadow;
    private final List<Piece> globals = new ArrayList<>();
    private final List<List<Piece>> frames = new ArrayList<>();
    private final List<Integer> lowest = new ArrayList<>();
    private final List<Piece> blocks = new ArrayList<>();
    private final List<Piece> quarantine = new ArrayList<>();
    private final List<int[]> reports = new ArrayList<>();

    PlainModel(int n, int q) {
        this.n = n % 64 == 0 && n >= 1024 && n <= 8192 ? n : 4096;
        this.q = q >= 0 && q <= this.n ? q : 1024;
        memory = new int[this.n];
        shadow = new int[this.n / 8];
        for (int a = 0; a < this.n; a++) {
            shadow[a / 8] = a < this.n / 8 ? 249 : a < this.n / 4 ? 0 : 250;
        }
    }

    private static boolean out(long x, long least, long most) {
        return x < least || x > most;
    }

    // Byte by byte: the last byte of a granule that belongs to the row tells how many are good.
    private void open(int from, int to) {
        for (int a = from; a < to; a++) {
            shadow[a / 8] = a % 8 == 7 ? 0 : a % 8 + 1;
        }
    }

    private void paint(int from, int to, int s) {
        for (int a = from; a < to; a++) {
            shadow[a / 8] = s;
        }
    }

    long global(int size) {
        if (out(size, 1, 512)) {
            return ARGUMENT;
        }
        int at = 0;
        if (!globals.isEmpty()) {
            at = globals.get(globals.size() - 1).to + 32;
            while (at % 32 != 0) {
                at++;
            }
        }
        if (at + size + 32 > n / 8) {
            return -1;
        }
        globals.add(new Piece(1, globals.size(), at, at + size));
        open(at, at + size);
        return at;
    }

    long enter(int... sizes) {
        int bytes = 32;
        int count = 0;
        for (int size : sizes) {
            if (out(size, 0, 128)) {
                return ARGUMENT;
            }
            if (size > 0) {
                bytes += (size + 31) / 32 * 32 + 32;
                count++;
            }
        }
        if (count == 0) {
            return ARGUMENT;
        }
        int top = frames.isEmpty() ? n / 4 : lowest.get(lowest.size() - 1);
        int at = top - bytes;
        if (at < n / 8) {
            return -1;
        }
        paint(at, at + 32, 241);
        int next = at + 32;
        List<Piece> variables = new ArrayList<>();
        for (int size : sizes) {
            if (size > 0) {
                int end = next + (size + 31) / 32 * 32 + 32;
                paint(next, end, variables.size() == count - 1 ? 243 : 242);
                open(next, next + size);
                variables.add(new Piece(2, 4 * frames.size() + variables.size(), next, next + size));
                next = end;
            }
        }
        frames.add(variables);
        lowest.add(at);
        return at;
    }

    long leave() {
        if (frames.isEmpty()) {
            return STATE;
        }
        int last = frames.size() - 1;
        paint(lowest.get(last), last == 0 ? n / 4 : lowest.get(last - 1), 245);
        frames.remove(last);
        lowest.remove(last);
        return last;
    }

    private Piece find(int frame, int variable) {
        if (out(frame, 0, frames.size() - 1) || out(variable, 0, frames.get(frame).size() - 1)) {
            return null;
        }
        return frames.get(frame).get(variable);
    }

    long scope(int frame, int variable, boolean in) {
        Piece v = find(frame, variable);
        if (v == null) {
            return INDEX;
        }
        if (v.in == in) {
            return 0;
        }
        v.in = in;
        if (in) {
            open(v.from, v.to);
        } else {
            paint(v.from, v.to, 248);
        }
        return 1;
    }

    long variable(int frame, int variable) {
        Piece v = find(frame, variable);
        return v == null ? INDEX : v.from;
    }

    private boolean isFree(int from, int to) {
        for (Piece b : blocks) {
            if (b.state != 2 && b.chunkFrom < to && from < b.chunkTo) {
                return false;
            }
        }
        return true;
    }

    private void oldestLeaves() {
        Piece b = quarantine.remove(0);
        b.state = 2;
        paint(b.chunkFrom, b.chunkTo, 250);
    }

    private Piece give(int kind, int size, int site) {
        int r = size <= 64 ? 16 : size <= 256 ? 32 : size <= 1024 ? 64 : 128;
        int bytes = r + (size + 15) / 16 * 16 + 16;
        while (true) {
            for (int at = n / 4; at + bytes <= n; at += 16) {
                if (isFree(at, at + bytes)) {
                    Piece b = new Piece(3, blocks.size(), at + r, at + r + size);
                    b.kind = kind;
                    b.given = site;
                    b.chunkFrom = at;
                    b.chunkTo = at + bytes;
                    blocks.add(b);
                    paint(at, at + bytes, 250);
                    open(b.from, b.to);
                    for (int a = b.from; a < b.to; a++) {
                        memory[a] = 190;
                    }
                    return b;
                }
            }
            if (quarantine.isEmpty()) {
                return null;
            }
            oldestLeaves();
        }
    }

    private void take(Piece b, int site) {
        b.state = 1;
        b.freed = site;
        quarantine.add(b);
        paint(b.from, b.to, 253);
        while (heldBytes() > q) {
            oldestLeaves();
        }
    }

    private int heldBytes() {
        int sum = 0;
        for (Piece b : quarantine) {
            sum += b.chunkTo - b.chunkFrom;
        }
        return sum;
    }

    long allocate(int kind, int size, int site) {
        if (out(kind, 0, 2) || out(size, 0, n)) {
            return ARGUMENT;
        }
        Piece b = give(kind, size, site);
        return b == null ? -1 : b.from;
    }

    private Piece freeable(int kind, int address) {
        Piece live = null;
        Piece held = null;
        for (Piece b : blocks) {
            if (b.from == address && b.state == 0) {
                live = b;
            }
            if (b.from == address && b.state == 1) {
                held = b;
            }
        }
        if (live != null && live.kind == kind) {
            return live;
        }
        tell(live != null ? 12 : held != null ? 10 : 11, address, 0, 1);
        return null;
    }

    long free(int kind, int address, int site) {
        if (out(kind, 0, 2)) {
            return ARGUMENT;
        }
        if (address == -1) {
            return 0;
        }
        Piece b = freeable(kind, address);
        if (b == null) {
            return 0;
        }
        take(b, site);
        return 1;
    }

    long resize(int address, int size, int site) {
        if (out(size, 0, n)) {
            return ARGUMENT;
        }
        if (address == -1) {
            return allocate(0, size, site);
        }
        Piece old = freeable(0, address);
        Piece b = old == null ? null : give(0, size, site);
        if (b == null) {
            return -1;
        }
        for (int i = 0; old.from + i < old.to && b.from + i < b.to; i++) {
            memory[b.from + i] = memory[old.from + i];
        }
        take(old, site);
        return b.from;
    }

    private boolean good(long a) {
        if (out(a, 0, n - 1)) {
            return false;
        }
        int s = shadow[(int) a / 8];
        return s == 0 || s < 8 && a % 8 < s;
    }

    private boolean wrong(int address, int count, int bytes, int write) {
        for (long a = address; a < (long) address + count; a++) {
            if (!good(a)) {
                tell(kind(a), (int) a, bytes, write);
                return true;
            }
        }
        return false;
    }

    private int kind(long a) {
        if (out(a, 0, n - 1)) {
            return 9;
        }
        int s = shadow[(int) a / 8];
        s = s >= 1 && s <= 7 ? shadow[(int) a / 8 + 1] : s;
        int[] of = {250, 253, 241, 242, 245, 248, 249, 247};
        for (int k = 0; k < 8; k++) {
            if (of[k] == s) {
                return k + 1;
            }
        }
        return s == 243 ? 4 : -99;
    }

    private void tell(int kind, int address, int bytes, int write) {
        int[] row = {kind, address, bytes, write, 0, -1, 0, 0, 0, 0};
        List<Piece> near = new ArrayList<>();
        if (address >= 0 && address < n / 8) {
            near = globals;
        } else if (address >= n / 8 && address < n / 4) {
            for (List<Piece> variables : frames) {
                near.addAll(variables);
            }
        } else if (address >= n / 4 && address < n) {
            for (Piece b : blocks) {
                if (b.state != 2) {
                    near.add(b);
                }
            }
        }
        int best = Integer.MAX_VALUE;
        int from = Integer.MAX_VALUE;
        for (Piece p : near) {
            int far = address < p.from ? p.from - address : address >= p.to ? address - p.to + 1 : 0;
            if (far < best || far == best && p.from < from) {
                best = far;
                from = p.from;
                row[4] = p.type;
                row[5] = p.number;
                row[6] = far;
                row[7] = far == 0 ? 0 : address < p.from ? 2 : 1;
                row[8] = p.given;
                row[9] = p.freed;
            }
        }
        reports.add(row);
    }

    long load(int address, int count) {
        if (out(count, 1, 8)) {
            return ARGUMENT;
        }
        if (wrong(address, count, count, 0)) {
            return 0;
        }
        long v = 0;
        for (int i = 0; i < count; i++) {
            v += (long) memory[address + i] << (8 * i);
        }
        return v;
    }

    long store(int address, int count, long v) {
        if (out(count, 1, 8)) {
            return ARGUMENT;
        }
        if (wrong(address, count, count, 1)) {
            return 0;
        }
        for (int i = 0; i < count; i++) {
            memory[address + i] = (int) ((v >> (8 * i)) & 0xFF);
        }
        return 1;
    }

    long fill(int address, int count, int v) {
        if (out(count, 0, n)) {
            return ARGUMENT;
        }
        if (wrong(address, count, count, 1)) {
            return 0;
        }
        for (int i = 0; i < count; i++) {
            memory[address + i] = Math.floorMod(v, 256);
        }
        return 1;
    }

    long copy(int to, int from, int count, boolean move) {
        if (out(count, 0, n)) {
            return ARGUMENT;
        }
        boolean together = count > 0 && (long) to + count > from && (long) from + count > to;
        if (together && !move) {
            tell(13, to, count, 1);
            return 0;
        }
        if (wrong(from, count, count, 0) || wrong(to, count, count, 1)) {
            return 0;
        }
        int[] before = memory.clone();
        for (int i = 0; i < count; i++) {
            memory[to + i] = before[from + i];
        }
        return 1;
    }

    long length(int address) {
        int i = 0;
        while (!wrong(address + i, 1, 1, 0)) {
            if (memory[address + i] == 0) {
                return i;
            }
            i++;
        }
        return -1;
    }

    long text(int to, int from) {
        int l = (int) length(from);
        return l >= 0 && copy(to, from, l + 1, false) == 1 ? l : -1;
    }

    long compare(int a, int b, int count) {
        if (out(count, 0, n)) {
            return ARGUMENT;
        }
        for (int i = 0; i < count; i++) {
            if (wrong(a + i, 1, 1, 0) || wrong(b + i, 1, 1, 0)) {
                return 2;
            }
            if (memory[a + i] != memory[b + i]) {
                return memory[a + i] < memory[b + i] ? -1 : 1;
            }
        }
        return 0;
    }

    long exchange(int address, int count, int before, int after) {
        if (out(count, 0, n) || count > 0 && (address < 0 || (long) address + count > n)) {
            return ARGUMENT;
        }
        int changed = 0;
        for (int g = 0; g < n / 8; g++) {
            if (8 * g >= address && 8 * g + 8 <= (long) address + count && shadow[g] == before) {
                shadow[g] = after;
                changed++;
            }
        }
        return changed;
    }

    long report(int i, int what) {
        if (out(i, 0, reports.size() - 1)) {
            return INDEX;
        }
        return out(what, 0, 9) ? ARGUMENT : reports.get(i)[what];
    }

    long block(int i, int what) {
        if (out(i, 0, blocks.size() - 1)) {
            return INDEX;
        }
        Piece b = blocks.get(i);
        int[] row = {b.from, b.to - b.from, b.kind, b.state, b.chunkFrom, b.chunkTo - b.chunkFrom, b.given, b.freed};
        return out(what, 0, 7) ? ARGUMENT : row[what];
    }

    long shadow(int g) {
        return out(g, 0, n / 8 - 1) ? INDEX : shadow[g];
    }

    long peek(int a) {
        return out(a, 0, n - 1) ? INDEX : memory[a];
    }

    long held(int i) {
        return out(i, 0, quarantine.size() - 1) ? INDEX : quarantine.get(i).number;
    }

    private boolean leads(Piece from, Piece to) {
        for (int w = 0; w < n; w += 4) {
            if (w >= from.from && w + 4 <= from.to) {
                long v = memory[w] + memory[w + 1] * 256L + memory[w + 2] * 65536L + memory[w + 3] * 16777216L;
                if (v >= to.from && v < to.to) {
                    return true;
                }
            }
        }
        return false;
    }

    private List<Piece> lostOnes() {
        List<Piece> reached = new ArrayList<>(globals);
        for (List<Piece> variables : frames) {
            for (Piece v : variables) {
                if (v.in) {
                    reached.add(v);
                }
            }
        }
        List<Piece> left = new ArrayList<>();
        for (Piece b : blocks) {
            if (b.state == 0) {
                left.add(b);
            }
        }
        boolean more = true;
        while (more) {
            more = false;
            for (Piece b : new ArrayList<>(left)) {
                for (Piece p : new ArrayList<>(reached)) {
                    if (left.contains(b) && leads(p, b)) {
                        left.remove(b);
                        reached.add(b);
                        more = true;
                    }
                }
            }
        }
        return left;
    }

    long lost(int number, boolean alone) {
        List<Piece> all = lostOnes();
        for (Piece b : all) {
            boolean counts = b.number >= number;
            for (Piece other : all) {
                counts &= !(alone && other != b && leads(other, b));
            }
            if (counts) {
                return b.number;
            }
        }
        return -1;
    }

    long told(int what) {
        int live = 0;
        int liveBytes = 0;
        for (Piece b : blocks) {
            live += b.state == 0 ? 1 : 0;
            liveBytes += b.state == 0 ? b.chunkTo - b.chunkFrom : 0;
        }
        int good = 0;
        for (int a = 0; a < n; a++) {
            good += good(a) ? 1 : 0;
        }
        int[] row = {n, q, globals.size(), frames.size(), blocks.size(), live, reports.size(),
            quarantine.size(), heldBytes(), liveBytes, good};
        if (what == 11) {
            return lostOnes().size();
        }
        return out(what, 0, 10) ? ARGUMENT : row[what];
    }
}
