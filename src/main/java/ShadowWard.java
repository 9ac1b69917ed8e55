import java.util.ArrayList;

/** A ward over a memory of bytes; ../shared/DOC.md tells what each call promises. */
public final class ShadowWard {
    public static final int NONE = -1;

    // An object is used for at most 512 calls, each of which keeps at most one block and one report.
    private static final int MOST_KEPT = 512;

    private static final int GRANULE = 8;
    private static final int WORD = 4;
    private static final int MOST_VARIABLES = 4;

    // Shadows of granules none of whose bytes is good; 0 to 7 tell of good ones.
    private static final int ALL_GOOD = 0;
    private static final int LEFT_OF_VARIABLES = 241;
    private static final int BETWEEN_VARIABLES = 242;
    private static final int RIGHT_OF_VARIABLES = 243;
    private static final int LEFT_FRAME = 245;
    private static final int LOCKED = 247;
    private static final int OUT_OF_SCOPE = 248;
    private static final int ABOUT_GLOBALS = 249;
    private static final int ABOUT_BLOCKS = 250;
    private static final int FREED = 253;

    private static final int NO_ADDRESS_KIND = 9;
    private static final int FREED_TWICE_KIND = 10;
    private static final int NO_BLOCK_KIND = 11;
    private static final int OTHER_KIND_KIND = 12;
    private static final int ONTO_ITSELF_KIND = 13;

    private static final int READ = 0;
    private static final int WRITE = 1;

    private static final int A_GLOBAL = 1;
    private static final int A_VARIABLE = 2;
    private static final int A_BLOCK = 3;

    private static final int LIVE = 0;
    private static final int IN_QUARANTINE = 1;
    private static final int GONE = 2;

    private final Memory memory;
    private final Globals globals;
    private final Frames frames;
    private final Heap heap;
    private final LostSearch lostSearch;
    private final ArrayList<Report> reports;

    public ShadowWard(int n, int q) {
        memory = new Memory(n);
        globals = new Globals(memory);
        frames = new Frames(memory);
        heap = new Heap(memory, q);
        lostSearch = new LostSearch(memory, globals, frames, heap);
        reports = new ArrayList<>();
    }

    // ---- regions

    public int global(int size) throws IllegalArgumentException {
        demand(size >= 1 && size <= 512);
        return globals.place(size);
    }

    public int enter(int a, int b, int c, int d) throws IllegalArgumentException {
        demand(isVariableSize(a) && isVariableSize(b) && isVariableSize(c) && isVariableSize(d));
        demand((a | b | c | d) != 0);
        return frames.push(a, b, c, d);
    }

    public int leave() throws IllegalStateException {
        if (frames.count() == 0) {
            throw new IllegalStateException("there is no frame");
        }
        frames.pop();
        return frames.count();
    }

    public boolean scope(int frame, int variable, boolean in) throws IndexOutOfBoundsException {
        return frames.setScope(variableOf(frame, variable), in);
    }

    public int variable(int frame, int variable) throws IndexOutOfBoundsException {
        return variableOf(frame, variable).address;
    }

    public int allocate(int kind, int size, int site) throws IllegalArgumentException {
        demand(isBlockKind(kind));
        demand(isCount(size));
        Block given = heap.give(kind, size, site);
        return given == null ? NONE : given.address;
    }

    public boolean free(int kind, int address, int site) throws IllegalArgumentException {
        demand(isBlockKind(kind));
        if (address == NONE) {
            return false;
        }
        Block freed = blockToFree(kind, address);
        if (freed == null) {
            return false;
        }
        heap.takeBack(freed, site);
        return true;
    }

    public int resize(int address, int size, int site) throws IllegalArgumentException {
        demand(isCount(size));
        if (address == NONE) {
            return allocate(0, size, site);
        }
        Block old = blockToFree(0, address);
        if (old == null) {
            return NONE;
        }
        Block given = heap.give(0, size, site);
        if (given == null) {
            return NONE;
        }
        memory.moveBytes(given.address, old.address, Math.min(given.size, old.size));
        heap.takeBack(old, site);
        return given.address;
    }

    // ---- accesses

    public long load(int address, int n) throws IllegalArgumentException {
        demand(n >= 1 && n <= 8);
        return permits(address, n, READ) ? memory.number(address, n) : 0L;
    }

    public boolean store(int address, int n, long v) throws IllegalArgumentException {
        demand(n >= 1 && n <= 8);
        if (!permits(address, n, WRITE)) {
            return false;
        }
        memory.setNumber(address, n, v);
        return true;
    }

    public boolean fill(int address, int n, int v) throws IllegalArgumentException {
        demand(isCount(n));
        if (!permits(address, n, WRITE)) {
            return false;
        }
        memory.setBytes(address, n, v);
        return true;
    }

    public boolean copy(int to, int from, int n, boolean move) throws IllegalArgumentException {
        demand(isCount(n));
        // As longs, for the rows may begin at any two ints.
        boolean together = Math.abs((long) to - (long) from) < n;
        if (together && !move) {
            tell(ONTO_ITSELF_KIND, to, n, WRITE);
            return false;
        }
        if (!permits(from, n, READ) || !permits(to, n, WRITE)) {
            return false;
        }
        memory.moveBytes(to, from, n);
        return true;
    }

    public int length(int address) {
        // At the latest the byte behind the last address is wrong.
        for (int i = 0; i <= memory.size; i++) {
            if (!permits(address + i, 1, READ)) {
                return NONE;
            }
            if (memory.byteAt(address + i) == 0) {
                return i;
            }
        }
        return NONE;
    }

    public int text(int to, int from) {
        int bytes = length(from);
        if (bytes == NONE) {
            return NONE;
        }
        return copy(to, from, bytes + 1, false) ? bytes : NONE;
    }

    public int compare(int a, int b, int n) throws IllegalArgumentException {
        demand(isCount(n));
        for (int i = 0; i < n; i++) {
            if (!permits(a + i, 1, READ) || !permits(b + i, 1, READ)) {
                return 2;
            }
            int order = Integer.compare(memory.byteAt(a + i), memory.byteAt(b + i));
            if (order != 0) {
                return order < 0 ? -1 : 1;
            }
        }
        return 0;
    }

    public int lock(int address, int n) throws IllegalArgumentException {
        demand(isCount(n) && memory.holds(address, n));
        return memory.exchangeWhole(address, n, ALL_GOOD, LOCKED);
    }

    public int unlock(int address, int n) throws IllegalArgumentException {
        demand(isCount(n) && memory.holds(address, n));
        return memory.exchangeWhole(address, n, LOCKED, ALL_GOOD);
    }

    // ---- what is told

    public int report(int i, int what) throws IndexOutOfBoundsException, IllegalArgumentException {
        demandIndex(i, reports.size());
        demand(what >= 0 && what <= 9);
        return reports.get(i).answer(what);
    }

    public int block(int block, int what) throws IndexOutOfBoundsException, IllegalArgumentException {
        demandIndex(block, heap.blocks.size());
        demand(what >= 0 && what <= 7);
        return heap.blocks.get(block).answer(what);
    }

    public int shadow(int granule) throws IndexOutOfBoundsException {
        demandIndex(granule, memory.granules());
        return memory.shadowOf(granule);
    }

    public int peek(int address) throws IndexOutOfBoundsException {
        demandIndex(address, memory.size);
        return memory.byteAt(address);
    }

    public int held(int i) throws IndexOutOfBoundsException {
        demandIndex(i, heap.quarantine.size());
        return heap.quarantine.get(i).number;
    }

    public int lost(int block, boolean alone) {
        return lostSearch.firstFrom(block, alone);
    }

    public int told(int what) throws IllegalArgumentException {
        demand(what >= 0 && what <= 11);
        switch (what) {
            case 0: return memory.size;
            case 1: return heap.mostHeldBytes;
            case 2: return globals.regions.size();
            case 3: return frames.count();
            case 4: return heap.blocks.size();
            case 5: return heap.liveCount;
            case 6: return reports.size();
            case 7: return heap.quarantine.size();
            case 8: return heap.heldBytes;
            case 9: return heap.liveBytes;
            case 10: return memory.goodAddresses();
            default: return lostSearch.count();
        }
    }

    // ---- what the calls share

    private static void demand(boolean asItMayBe) {
        if (!asItMayBe) {
            throw new IllegalArgumentException("a number is not as it may be");
        }
    }

    private static void demandIndex(int i, int count) {
        if (i < 0 || i >= count) {
            throw new IndexOutOfBoundsException("there is no such thing");
        }
    }

    private static boolean isVariableSize(int size) {
        return size >= 0 && size <= 128;
    }

    private static boolean isBlockKind(int kind) {
        return kind >= 0 && kind <= 2;
    }

    private boolean isCount(int n) {
        return n >= 0 && n <= memory.size;
    }

    private static int roundUp(int n, int powerOfTwo) {
        return (n + powerOfTwo - 1) & -powerOfTwo;
    }

    private Variable variableOf(int frame, int variable) {
        demandIndex(frame, frames.count());
        ArrayList<Variable> variables = frames.frames.get(frame).variables;
        demandIndex(variable, variables.size());
        return variables.get(variable);
    }

    /** The live block that may be freed by this kind; null when it was reported that there is none. */
    private Block blockToFree(int kind, int address) {
        Block at = heap.blockAt(address);
        if (at == null) {
            tell(NO_BLOCK_KIND, address, 0, WRITE);
            return null;
        }
        if (at.state == IN_QUARANTINE) {
            tell(FREED_TWICE_KIND, address, 0, WRITE);
            return null;
        }
        if (at.kind != kind) {
            tell(OTHER_KIND_KIND, address, 0, WRITE);
            return null;
        }
        return at;
    }

    private boolean permits(int address, int n, int readOrWrite) {
        int offset = memory.firstWrong(address, n);
        if (offset == NONE) {
            return true;
        }
        int wrong = address + offset;
        tell(memory.kindOfWrong(wrong), wrong, n, readOrWrite);
        return false;
    }

    private void tell(int kind, int address, int n, int readOrWrite) {
        if (reports.size() >= MOST_KEPT) {
            return;
        }
        Region nearest = null;
        if (memory.isAddress(address)) {
            if (address < memory.stackStart) {
                nearest = globals.nearestTo(address);
            } else if (address < memory.heapStart) {
                nearest = frames.nearestTo(address);
            } else {
                nearest = heap.nearestTo(address);
            }
        }
        reports.add(new Report(kind, address, n, readOrWrite, nearest));
    }

    private static Region nearer(Region best, Region other, int address) {
        if (best == null) {
            return other;
        }
        int less = Integer.compare(other.farFrom(address), best.farFrom(address));
        if (less == 0) {
            less = Integer.compare(other.address, best.address);
        }
        return less < 0 ? other : best;
    }

    // ---- the parts

    /** So many bytes from an address on, of which reports can tell. */
    private static class Region {
        final int place;
        final int number;
        final int address;
        final int size;
        final int end;
        // Here and not in Block, for a report tells 0 of a region that is no block.
        final int siteGiven;
        int siteFreed;

        Region(int place, int number, int address, int size, int siteGiven) {
            this.place = place;
            this.number = number;
            this.address = address;
            this.size = size;
            this.end = address + size;
            this.siteGiven = siteGiven;
        }

        final boolean hasByte(int at) {
            return at >= address && at < end;
        }

        final int farFrom(int at) {
            if (at < address) {
                return address - at;
            }
            return at < end ? 0 : at - end + 1;
        }

        /** 0: the address is one of its bytes, 1: it is behind, 2: before. */
        final int sideOf(int at) {
            if (at < address) {
                return 2;
            }
            return at < end ? 0 : 1;
        }
    }

    private static final class Variable extends Region {
        boolean inScope = true;

        Variable(int number, int address, int size) {
            super(A_VARIABLE, number, address, size, 0);
        }
    }

    private static final class Block extends Region {
        final int kind;
        final int chunk;
        final int chunkBytes;
        int state = LIVE;
        // Marks of the search for lost blocks: only what the last search wrote is meant.
        boolean found;
        boolean ledToByLost;

        Block(int number, int kind, int size, int site, int chunk) {
            super(A_BLOCK, number, chunk + redzone(size), size, site);
            this.kind = kind;
            this.chunk = chunk;
            this.chunkBytes = chunkBytesFor(size);
        }

        static int redzone(int size) {
            if (size <= 64) {
                return 16;
            }
            if (size <= 256) {
                return 32;
            }
            return size <= 1024 ? 64 : 128;
        }

        static int chunkBytesFor(int size) {
            return redzone(size) + roundUp(size, 16) + 16;
        }

        boolean isLost() {
            return state == LIVE && !found;
        }

        int answer(int what) {
            switch (what) {
                case 0: return address;
                case 1: return size;
                case 2: return kind;
                case 3: return state;
                case 4: return chunk;
                case 5: return chunkBytes;
                case 6: return siteGiven;
                default: return siteFreed;
            }
        }
    }

    /** Keeps what its nearest region was when it was made, for that may be freed or left later. */
    private static final class Report {
        final int kind;
        final int address;
        final int bytes;
        final int readOrWrite;
        int place = 0;
        int number = NONE;
        int far = 0;
        int side = 0;
        int siteGiven = 0;
        int siteFreed = 0;

        Report(int kind, int address, int bytes, int readOrWrite, Region nearest) {
            this.kind = kind;
            this.address = address;
            this.bytes = bytes;
            this.readOrWrite = readOrWrite;
            if (nearest != null) {
                place = nearest.place;
                number = nearest.number;
                far = nearest.farFrom(address);
                side = nearest.sideOf(address);
                siteGiven = nearest.siteGiven;
                siteFreed = nearest.siteFreed;
            }
        }

        int answer(int what) {
            switch (what) {
                case 0: return kind;
                case 1: return address;
                case 2: return bytes;
                case 3: return readOrWrite;
                case 4: return place;
                case 5: return number;
                case 6: return far;
                case 7: return side;
                case 8: return siteGiven;
                default: return siteFreed;
            }
        }
    }

    /** The bytes, and the shadows by which alone an access is judged. */
    private static final class Memory {
        final int size;
        final int stackStart;
        final int heapStart;
        private final int[] bytes;
        private final int[] shadows;

        Memory(int n) {
            size = n >= 1024 && n <= 8192 && n % 64 == 0 ? n : 4096;
            stackStart = size / 8;
            heapStart = size / 4;
            bytes = new int[size];
            shadows = new int[size / GRANULE];
            paint(0, stackStart, ABOUT_GLOBALS);
            paint(heapStart, size - heapStart, ABOUT_BLOCKS);
        }

        boolean isAddress(int at) {
            return at >= 0 && at < size;
        }

        /** Whether all of n bytes are addresses, as they are when there are none. */
        boolean holds(int address, int n) {
            return n == 0 || (n > 0 && n <= size && address >= 0 && address <= size - n);
        }

        int granules() {
            return shadows.length;
        }

        int shadowOf(int granule) {
            return granule >= 0 && granule < shadows.length ? shadows[granule] : ALL_GOOD;
        }

        int byteAt(int at) {
            return at >= 0 && at < bytes.length ? bytes[at] : 0;
        }

        /** Gives a shadow to all granules that n bytes, from a multiple of 8 on, begin in. */
        void paint(int address, int n, int shadow) {
            int end = Math.min(shadows.length, roundUp(address + n, GRANULE) / GRANULE);
            for (int g = Math.max(0, address / GRANULE); g < end; g++) {
                shadows[g] = shadow;
            }
        }

        void open(int address, int n) {
            paint(address, n, ALL_GOOD);
            int rest = n % GRANULE;
            if (rest != 0) {
                paint(address + n - rest, rest, rest);
            }
        }

        int exchangeWhole(int address, int n, int before, int after) {
            if (!holds(address, n) || n == 0) {
                return 0;
            }
            int changed = 0;
            int end = (address + n) / GRANULE;
            for (int g = roundUp(address, GRANULE) / GRANULE; g < end && g < shadows.length; g++) {
                if (shadows[g] == before) {
                    shadows[g] = after;
                    changed++;
                }
            }
            return changed;
        }

        private int goodBytes(int shadow) {
            if (shadow == ALL_GOOD) {
                return GRANULE;
            }
            return shadow < GRANULE ? shadow : 0;
        }

        int goodAddresses() {
            int sum = 0;
            for (int g = 0; g < shadows.length; g++) {
                sum += goodBytes(shadows[g]);
            }
            return sum;
        }

        boolean isGood(int at) {
            return isAddress(at) && at % GRANULE < goodBytes(shadowOf(at / GRANULE));
        }

        /** How far behind the address the first wrong one of n bytes is; NONE when none is. */
        int firstWrong(int address, int n) {
            for (int i = 0; i < n; i++) {
                if (!isGood(address + i)) {
                    return i;
                }
            }
            return NONE;
        }

        int kindOfWrong(int at) {
            if (!isAddress(at)) {
                return NO_ADDRESS_KIND;
            }
            int shadow = shadowOf(at / GRANULE);
            // A granule that is good in part tells not what follows it; the next one does.
            if (goodBytes(shadow) > 0) {
                shadow = shadowOf(at / GRANULE + 1);
            }
            switch (shadow) {
                case ABOUT_BLOCKS: return 1;
                case FREED: return 2;
                case LEFT_OF_VARIABLES: return 3;
                case BETWEEN_VARIABLES: return 4;
                case RIGHT_OF_VARIABLES: return 4;
                case LEFT_FRAME: return 5;
                case OUT_OF_SCOPE: return 6;
                case ABOUT_GLOBALS: return 7;
                default: return 8;
            }
        }

        long number(int address, int n) {
            long sum = 0;
            for (int i = n - 1; i >= 0; i--) {
                sum = (sum << 8) | byteAt(address + i);
            }
            return sum;
        }

        void setNumber(int address, int n, long v) {
            if (!holds(address, n)) {
                return;
            }
            for (int i = 0; i < n; i++) {
                bytes[address + i] = (int) (v >>> (8 * i)) & 255;
            }
        }

        void setBytes(int address, int n, int v) {
            if (!holds(address, n)) {
                return;
            }
            for (int i = 0; i < n; i++) {
                bytes[address + i] = v & 255;
            }
        }

        void moveBytes(int to, int from, int n) {
            if (n > 0 && holds(to, n) && holds(from, n)) {
                System.arraycopy(bytes, from, bytes, to, n);
            }
        }
    }

    private static final class Globals {
        private static final int GAP = 32;

        private final Memory memory;
        final ArrayList<Region> regions = new ArrayList<>();

        Globals(Memory memory) {
            this.memory = memory;
        }

        int place(int size) {
            int address = nextAddress();
            if (address + size + GAP > memory.stackStart) {
                return NONE;
            }
            regions.add(new Region(A_GLOBAL, regions.size(), address, size, 0));
            memory.open(address, size);
            return address;
        }

        private int nextAddress() {
            int count = regions.size();
            return count == 0 ? 0 : roundUp(regions.get(count - 1).end + GAP, GAP);
        }

        Region nearestTo(int address) {
            Region best = null;
            for (int i = 0; i < regions.size(); i++) {
                best = nearer(best, regions.get(i), address);
            }
            return best;
        }
    }

    private static final class Frame {
        final int address;
        final int bytes;
        final ArrayList<Variable> variables = new ArrayList<>();

        Frame(int address, int bytes) {
            this.address = address;
            this.bytes = bytes;
        }
    }

    private static final class Frames {
        private static final int REDZONE = 32;

        private final Memory memory;
        final ArrayList<Frame> frames = new ArrayList<>();

        Frames(Memory memory) {
            this.memory = memory;
        }

        int count() {
            return frames.size();
        }

        /** The bytes of a variable with those behind it; a size of 0 means that there is none. */
        private static int spanOf(int size) {
            return size == 0 ? 0 : roundUp(size, REDZONE) + REDZONE;
        }

        int push(int a, int b, int c, int d) {
            int bytes = REDZONE + spanOf(a) + spanOf(b) + spanOf(c) + spanOf(d);
            int above = count() == 0 ? memory.heapStart : frames.get(count() - 1).address;
            int address = above - bytes;
            if (address < memory.stackStart) {
                return NONE;
            }
            Frame frame = new Frame(address, bytes);
            int next = address + REDZONE;
            next = addVariable(frame, next, a);
            next = addVariable(frame, next, b);
            next = addVariable(frame, next, c);
            addVariable(frame, next, d);
            frames.add(frame);
            paintFrame(frame);
            return address;
        }

        /** Answers where the next variable lies. */
        private int addVariable(Frame frame, int address, int size) {
            if (size > 0) {
                int number = MOST_VARIABLES * count() + frame.variables.size();
                frame.variables.add(new Variable(number, address, size));
            }
            return address + spanOf(size);
        }

        private void paintFrame(Frame frame) {
            memory.paint(frame.address, REDZONE, LEFT_OF_VARIABLES);
            int last = frame.variables.size() - 1;
            for (int i = 0; i <= last; i++) {
                Variable variable = frame.variables.get(i);
                int about = i == last ? RIGHT_OF_VARIABLES : BETWEEN_VARIABLES;
                memory.paint(variable.address, spanOf(variable.size), about);
                memory.open(variable.address, variable.size);
            }
        }

        void pop() {
            if (count() > 0) {
                Frame frame = frames.remove(count() - 1);
                memory.paint(frame.address, frame.bytes, LEFT_FRAME);
            }
        }

        boolean setScope(Variable variable, boolean in) {
            if (variable.inScope == in) {
                return false;
            }
            variable.inScope = in;
            if (in) {
                memory.open(variable.address, variable.size);
            } else {
                memory.paint(variable.address, variable.size, OUT_OF_SCOPE);
            }
            return true;
        }

        Region nearestTo(int address) {
            Region best = null;
            for (int f = 0; f < count(); f++) {
                ArrayList<Variable> variables = frames.get(f).variables;
                for (int v = 0; v < variables.size(); v++) {
                    best = nearer(best, variables.get(v), address);
                }
            }
            return best;
        }
    }

    /** The blocks, where their chunks lie, and the freed ones that are held back. */
    private static final class Heap {
        // Chunks begin at multiples of 16 and have multiples of 16 bytes.
        private static final int UNIT = 16;
        private static final int NEW_BYTE = 190;

        private final Memory memory;
        final int mostHeldBytes;
        final ArrayList<Block> blocks = new ArrayList<>();
        final ArrayList<Block> quarantine = new ArrayList<>();
        // Whose chunk has a unit; null when none has it.
        private final Block[] owners;
        int liveCount = 0;
        int liveBytes = 0;
        int heldBytes = 0;

        Heap(Memory memory, int q) {
            this.memory = memory;
            mostHeldBytes = q >= 0 && q <= memory.size ? q : 1024;
            owners = new Block[(memory.size - memory.heapStart) / UNIT];
        }

        /** A new live block; null when there is no place for it. */
        Block give(int kind, int size, int site) {
            if (blocks.size() >= MOST_KEPT) {
                return null;
            }
            int unit = unitWithRoom(Block.chunkBytesFor(size) / UNIT);
            if (unit == NONE) {
                return null;
            }
            Block block = new Block(blocks.size(), kind, size, site, memory.heapStart + unit * UNIT);
            blocks.add(block);
            setOwner(block, block);
            liveCount++;
            liveBytes += block.chunkBytes;
            memory.setBytes(block.address, size, NEW_BYTE);
            memory.paint(block.chunk, block.chunkBytes, ABOUT_BLOCKS);
            memory.open(block.address, size);
            return block;
        }

        private int unitWithRoom(int units) {
            int unit = firstFreeRun(units);
            for (int left = quarantine.size(); left > 0 && unit == NONE; left--) {
                releaseOldest();
                unit = firstFreeRun(units);
            }
            return unit;
        }

        private int firstFreeRun(int units) {
            int run = 0;
            for (int u = 0; u < owners.length; u++) {
                run = owners[u] == null ? run + 1 : 0;
                if (run == units) {
                    return u - units + 1;
                }
            }
            return NONE;
        }

        private void setOwner(Block chunkOf, Block owner) {
            int first = Math.max(0, (chunkOf.chunk - memory.heapStart) / UNIT);
            int end = Math.min(owners.length, first + chunkOf.chunkBytes / UNIT);
            for (int u = first; u < end; u++) {
                owners[u] = owner;
            }
        }

        void takeBack(Block block, int site) {
            block.state = IN_QUARANTINE;
            block.siteFreed = site;
            liveCount--;
            liveBytes -= block.chunkBytes;
            heldBytes += block.chunkBytes;
            quarantine.add(block);
            memory.paint(block.address, block.size, FREED);
            for (int left = quarantine.size(); left > 0 && heldBytes > mostHeldBytes; left--) {
                releaseOldest();
            }
        }

        private void releaseOldest() {
            if (quarantine.isEmpty()) {
                return;
            }
            Block oldest = quarantine.remove(0);
            oldest.state = GONE;
            heldBytes -= oldest.chunkBytes;
            memory.paint(oldest.chunk, oldest.chunkBytes, ABOUT_BLOCKS);
            setOwner(oldest, null);
        }

        private Block chunkOwner(int address) {
            if (address < memory.heapStart) {
                return null;
            }
            int unit = (address - memory.heapStart) / UNIT;
            return unit < owners.length ? owners[unit] : null;
        }

        /** The block, live or in quarantine, whose address this is; null when there is none. */
        Block blockAt(int address) {
            Block owner = chunkOwner(address);
            return owner != null && owner.address == address ? owner : null;
        }

        /** The live block one of whose bytes has the address; null when there is none. */
        Block liveBlockWith(int address) {
            Block owner = chunkOwner(address);
            return owner != null && owner.state == LIVE && owner.hasByte(address) ? owner : null;
        }

        Region nearestTo(int address) {
            Region best = null;
            for (int i = 0; i < blocks.size(); i++) {
                Block block = blocks.get(i);
                if (block.state != GONE) {
                    best = nearer(best, block, address);
                }
            }
            return best;
        }
    }

    /** Follows the words of the roots, to tell the blocks that nothing leads to any more. */
    private static final class LostSearch {
        private final Memory memory;
        private final Globals globals;
        private final Frames frames;
        private final Heap heap;
        // Kept and used again, so that a search makes no object.
        private final ArrayList<Block> found = new ArrayList<>();

        LostSearch(Memory memory, Globals globals, Frames frames, Heap heap) {
            this.memory = memory;
            this.globals = globals;
            this.frames = frames;
            this.heap = heap;
        }

        int firstFrom(int number, boolean alone) {
            markFound();
            if (alone) {
                markLedToByLost();
            }
            for (int i = Math.max(0, number); i < heap.blocks.size(); i++) {
                Block block = heap.blocks.get(i);
                if (block.isLost() && !(alone && block.ledToByLost)) {
                    return i;
                }
            }
            return NONE;
        }

        int count() {
            markFound();
            return heap.liveCount - found.size();
        }

        private void markFound() {
            found.clear();
            for (int i = 0; i < heap.blocks.size(); i++) {
                heap.blocks.get(i).found = false;
            }
            for (int i = 0; i < globals.regions.size(); i++) {
                findFrom(globals.regions.get(i));
            }
            for (int i = 0; i < frames.count(); i++) {
                ArrayList<Variable> variables = frames.frames.get(i).variables;
                for (int v = 0; v < variables.size(); v++) {
                    if (variables.get(v).inScope) {
                        findFrom(variables.get(v));
                    }
                }
            }
            // It grows meanwhile, but each live block comes into it once only.
            for (int i = 0; i < heap.liveCount && i < found.size(); i++) {
                findFrom(found.get(i));
            }
        }

        private void findFrom(Region region) {
            for (int at = region.address; at + WORD <= region.end; at += WORD) {
                Block block = ledToFrom(at);
                if (block != null && !block.found) {
                    block.found = true;
                    found.add(block);
                }
            }
        }

        private void markLedToByLost() {
            for (int i = 0; i < heap.blocks.size(); i++) {
                heap.blocks.get(i).ledToByLost = false;
            }
            for (int i = 0; i < heap.blocks.size(); i++) {
                Block block = heap.blocks.get(i);
                if (block.isLost()) {
                    markLedToFrom(block);
                }
            }
        }

        private void markLedToFrom(Block lostOne) {
            for (int at = lostOne.address; at + WORD <= lostOne.end; at += WORD) {
                Block block = ledToFrom(at);
                if (block != null && block != lostOne) {
                    block.ledToByLost = true;
                }
            }
        }

        private Block ledToFrom(int at) {
            // A word of 2^31 or more becomes a negative int, which is no address either.
            return heap.liveBlockWith((int) memory.number(at, WORD));
        }
    }
}
