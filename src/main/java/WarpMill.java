import java.util.Arrays;
import java.util.NoSuchElementException;

/**
 * A processor for many threads. The face is at the top, then the steps of a cycle, then the parts
 * that the steps work on. A set of lanes is an int with one bit for each lane everywhere.
 */
public final class WarpMill {
    public static final int NONE = -1;

    private static final int MOST_LANES = 32;
    private static final int MOST_SLOTS = 16;
    private static final int MOST_UNITS = 8;
    private static final int MOST_GATES = 8;
    private static final int MOST_BLOCKS = 64;
    private static final int LEAST_INTS = 512;
    private static final int MOST_INTS = 4096;
    private static final int WORDS = 128;
    private static final int SHARED_INTS = 64;
    private static final int REGISTERS = 16;
    private static final int PREDICATES = 4;
    private static final int GATE_PLACES = 4;
    private static final int MOST_AT_ONCE = 500;
    private static final int MOST_CYCLES = 20000;

    private static final int NO_LAUNCH = 0;
    private static final int UNDER_WAY = 1;
    private static final int ALL_ENDED = 2;
    private static final int TRAPPED = 3;
    private static final int TRAPPED_AND_PENDING = 4;

    private static final int WHY_PLACE = 1;
    private static final int WHY_WORD = 2;
    private static final int WHY_DIVISOR = 3;
    private static final int WHY_INT = 4;

    private final Sizes sizes = new Sizes();
    private final Word[] kernel = new Word[WORDS];
    private final Memory memory = new Memory();
    private final Tally tally = new Tally();
    private final Unit[] units = new Unit[MOST_UNITS];
    // A block is made when its number is first dispatched, and used again by later launches.
    private final Block[] blocks = new Block[MOST_BLOCKS];

    public WarpMill() {
        Word end = new Word(0L);
        for (int k = 0; k < kernel.length; k++) {
            kernel[k] = end;
        }
        for (int u = 0; u < units.length; u++) {
            units[u] = new Unit(sizes.slots);
        }
    }

    public boolean sizes(int lanes, int slots, int units, int banks, int gates, int ints) {
        if (tally.underWay() || !sizes.become(lanes, slots, units, banks, gates, ints)) {
            return false;
        }
        memory.resize(ints);
        memory.cache.empty();
        tally.begin(NO_LAUNCH, 0, 0);
        clearForLaunch();
        return true;
    }

    public boolean word(int k, long w) {
        if (k < 0 || k >= kernel.length || tally.underWay()) {
            return false;
        }
        kernel[k] = new Word(w);
        return true;
    }

    public boolean set(int k, int v) {
        if (!memory.has(k) || tally.underWay()) {
            return false;
        }
        memory.ints[k] = v;
        return true;
    }

    public boolean launch(int blocks, int threads) {
        if (tally.underWay() || blocks < 1 || blocks > MOST_BLOCKS) {
            return false;
        }
        if (threads < 1 || threads > sizes.lanes * sizes.slots) {
            return false;
        }
        tally.begin(UNDER_WAY, blocks, threads);
        clearForLaunch();
        return true;
    }

    public int run(int n) throws IllegalArgumentException, IllegalStateException {
        if (n < 1 || n > MOST_AT_ONCE) {
            throw new IllegalArgumentException("no such number of cycles");
        }
        if (tally.allCycles >= MOST_CYCLES) {
            throw new IllegalStateException("all cycles have been");
        }
        for (int k = 0; k < n && tally.underWay() && tally.allCycles < MOST_CYCLES; k++) {
            doCycle();
        }
        return tally.status;
    }

    public boolean stop() {
        if (!tally.underWay()) {
            return false;
        }
        freeAllSlots();
        memory.pending.forget();
        tally.status = NO_LAUNCH;
        return true;
    }

    public int global(int k) throws NoSuchElementException {
        if (!memory.has(k)) {
            throw new NoSuchElementException("no such int");
        }
        return memory.ints[k];
    }

    public int state(int what) {
        switch (what) {
            case 4:
                return memory.cache.hits;
            case 5:
                return memory.cache.misses;
            case 19:
                return memory.pending.count;
            default:
                return what >= 13 && what <= 18 ? sizes.tell(what - 13) : tally.tell(what);
        }
    }

    public int unit(int unit, int what) {
        return isUnit(unit) ? units[unit].tell(what) : NONE;
    }

    public int cached(int gate, int place) {
        return gate >= 0 && gate < sizes.gates ? memory.cache.tell(gate, place) : NONE;
    }

    public int slot(int unit, int slot, int what) {
        if (!isUnit(unit) || slot < 0 || slot >= sizes.slots || what < 0 || what > 24) {
            return NONE;
        }
        Warp warp = units[unit].busy(slot);
        if (warp == null) {
            return what <= 1 ? NONE : 0;
        }
        return warp.tell(what);
    }

    public int lane(int unit, int slot, int lane, int r) throws NoSuchElementException {
        Warp warp = isUnit(unit) ? units[unit].busy(slot) : null;
        if (warp == null || !warp.hasThread(lane) || r < 0 || r > 20) {
            throw new NoSuchElementException("no such lane or register");
        }
        return warp.tellLane(lane, r);
    }

    public int shared(int block, int k) throws NoSuchElementException {
        Block home = block >= 0 && block < blocks.length ? blocks[block] : null;
        if (home == null || home.unit == null || k < 0 || k >= SHARED_INTS) {
            throw new NoSuchElementException("no such block or int");
        }
        return home.ints[k];
    }

    private boolean isUnit(int unit) {
        return unit >= 0 && unit < sizes.units;
    }

    private void clearForLaunch() {
        freeAllSlots();
        for (int u = 0; u < units.length; u++) {
            units[u].begin(sizes.slots);
        }
        memory.cache.begin();
    }

    private void freeAllSlots() {
        for (int k = 0; k < blocks.length; k++) {
            Block block = blocks[k];
            if (block != null && block.unit != null) {
                block.unit.free(block);
            }
        }
    }

    private void doCycle() {
        int cycle = tally.cycles;
        memory.finish(cycle);
        if (tally.why == 0) {
            dispatch();
            for (int u = 0; u < sizes.units && tally.why == 0; u++) {
                Warp warp = units[u].choose(cycle);
                if (warp != null) {
                    go(units[u], warp, cycle);
                }
            }
        }
        tally.endCycle(memory.pending.count == 0);
    }

    private void dispatch() {
        int warps = warpsOfABlock();
        for (int k = tally.dispatched; k < tally.blocks && k < blocks.length; k++) {
            Unit unit = firstWithRoom(warps);
            if (unit == null) {
                return;
            }
            if (blocks[k] == null) {
                blocks[k] = new Block(k);
            }
            blocks[k].begin(unit, tally.blocks, tally.threads);
            unit.seat(blocks[k], warps, sizes.lanes, kernel);
            tally.dispatched = k + 1;
        }
    }

    private int warpsOfABlock() {
        int lanes = Math.max(1, sizes.lanes);
        return (tally.threads + lanes - 1) / lanes;
    }

    private Unit firstWithRoom(int warps) {
        for (int u = 0; u < sizes.units; u++) {
            if (units[u].free >= warps) {
                return units[u];
            }
        }
        return null;
    }

    private void go(Unit unit, Warp warp, int cycle) {
        Word word = warp.word;
        if (word == null || !word.known) {
            tally.trap(word == null ? WHY_PLACE : WHY_WORD, warp, leastOf(warp.group));
            return;
        }
        int doing = warp.doing();
        int unable = unableOf(warp, word, doing);
        if (unable != 0) {
            tally.trap(word.divides ? WHY_DIVISOR : WHY_INT, warp, leastOf(unable));
            return;
        }
        tally.count(warp.group, doing);
        unit.went++;
        warp.advance(doing);
        int wait = word.wait;
        if (word.usesShared) {
            warp.useShared(doing);
            wait = unit.crowd(warp, doing, sizes.banks, cycle);
        } else if (word.usesMemory) {
            wait = memory.ask(warp, doing, cycle, sizes.gates);
        } else {
            warp.act(doing);
        }
        warp.mark(cycle + wait);
        if (word.divides) {
            unit.dividerTick = cycle + wait;
        }
        meet(warp.block);
        warp.gather(kernel);
    }

    private int unableOf(Warp warp, Word word, int doing) {
        if (word.divides) {
            return warp.dividingByZero(doing);
        }
        if (!word.usesMemory) {
            return 0;
        }
        warp.aim(doing);
        return warp.aimedBeyond(doing, word.usesShared ? SHARED_INTS : sizes.ints);
    }

    /** A block whose threads have all ended leaves; if all that are left wait, none does any more. */
    private void meet(Block block) {
        Unit unit = block.unit;
        if (unit == null) {
            return;
        }
        if (block.alive == 0) {
            unit.free(block);
            tally.ended++;
        } else if (block.waiting == block.alive) {
            block.waiting = 0;
            unit.wake(block, kernel);
        }
    }

    private static int leastOf(int lanes) {
        for (int lane = 0; lane < MOST_LANES; lane++) {
            if (in(lanes, lane)) {
                return lane;
            }
        }
        return 0;
    }

    private static boolean in(int lanes, int lane) {
        return ((lanes >>> lane) & 1) != 0;
    }

    private static final class Sizes {
        int lanes = 4;
        int slots = 4;
        int units = 2;
        int banks = 4;
        int gates = 2;
        int ints = LEAST_INTS;

        boolean become(int lanes, int slots, int units, int banks, int gates, int ints) {
            if (!isPower(lanes, MOST_LANES) || slots < 1 || slots > MOST_SLOTS) {
                return false;
            }
            if (units < 1 || units > MOST_UNITS || !isPower(banks, MOST_LANES)) {
                return false;
            }
            if (!isPower(gates, MOST_GATES) || !isPower(ints, MOST_INTS) || ints < LEAST_INTS) {
                return false;
            }
            this.lanes = lanes;
            this.slots = slots;
            this.units = units;
            this.banks = banks;
            this.gates = gates;
            this.ints = ints;
            return true;
        }

        private static boolean isPower(int k, int most) {
            return k >= 1 && k <= most && (k & (k - 1)) == 0;
        }

        int tell(int what) {
            switch (what) {
                case 0:
                    return lanes;
                case 1:
                    return slots;
                case 2:
                    return units;
                case 3:
                    return banks;
                case 4:
                    return gates;
                default:
                    return ints;
            }
        }
    }

    /** What is told of the latest launch, and how it stands. */
    private static final class Tally {
        int status = NO_LAUNCH;
        int blocks;
        int threads;
        int dispatched;
        int ended;
        int cycles;
        int allCycles;
        int went;
        int did;
        int partly;
        int why;
        int trapBlock;
        int trapThread;
        int trapPlace;

        boolean underWay() {
            return status == UNDER_WAY || status == TRAPPED_AND_PENDING;
        }

        void begin(int status, int blocks, int threads) {
            this.status = status;
            this.blocks = blocks;
            this.threads = threads;
            dispatched = 0;
            ended = 0;
            cycles = 0;
            went = 0;
            did = 0;
            partly = 0;
            why = 0;
            trapBlock = 0;
            trapThread = 0;
            trapPlace = 0;
        }

        void count(int group, int doing) {
            went++;
            did += Integer.bitCount(doing);
            if (doing != group) {
                partly++;
            }
        }

        void trap(int why, Warp warp, int lane) {
            this.why = why;
            trapBlock = warp.block.number;
            trapThread = warp.number * warp.lanes + lane;
            trapPlace = warp.place;
        }

        void endCycle(boolean nothingPending) {
            cycles++;
            allCycles++;
            if (why != 0) {
                status = nothingPending ? TRAPPED : TRAPPED_AND_PENDING;
            } else if (ended == blocks && nothingPending) {
                status = ALL_ENDED;
            }
        }

        int tell(int what) {
            switch (what) {
                case 0:
                    return status;
                case 1:
                    return cycles;
                case 2:
                    return went;
                case 3:
                    return did;
                case 6:
                    return ended;
                case 7:
                    return allCycles;
                case 8:
                    return why;
                case 9:
                    return trapBlock;
                case 10:
                    return trapThread;
                case 11:
                    return trapPlace;
                case 12:
                    return partly;
                default:
                    return NONE;
            }
        }
    }

    /** A word of the kernel, taken apart once, as it is asked for in every cycle. */
    private static final class Word {
        final int op;
        final int d;
        final int a;
        final int b;
        final int n;
        final boolean known;
        // The predicate that guards it, or NONE.
        final int guard;
        final boolean guardIsFalse;
        final boolean divides;
        final boolean usesMemory;
        final boolean usesShared;
        final boolean waitsForMemory;
        // Ticks have numbers: a register's own, and REGISTERS + p for a predicate.
        final int written;
        final int needed;
        final int wait;

        Word(long w) {
            op = (int) w & 255;
            d = (int) (w >> 8) & 15;
            a = (int) (w >> 12) & 15;
            b = (int) (w >> 16) & 15;
            n = (int) (w >> 32);
            int g = (int) (w >> 20) & 15;
            known = isKnown(op, n);
            guard = g >= 8 ? g & 3 : NONE;
            guardIsFalse = (g & 4) != 0;
            divides = op == 7 || op == 8;
            usesMemory = op >= 50 && op <= 59;
            usesShared = op == 52 || op == 53 || op == 58 || op == 59;
            waitsForMemory = op == 0 || op == 1 || usesMemory;
            written = writtenBy(op, d);
            int mask = predicatesReadBy(op, a, b, n);
            mask |= readsA(op) ? 1 << a : 0;
            mask |= readsB(op) ? 1 << b : 0;
            mask |= written != NONE ? 1 << written : 0;
            mask |= guard != NONE ? tickOf(guard) : 0;
            needed = known ? mask : 0;
            wait = waitOf(op);
        }

        private static boolean isKnown(int op, int n) {
            if (op == 3) {
                return n >= 0 && n <= 6;
            }
            return op <= 21 || op >= 30 && op <= 36 || op >= 40 && op <= 42
                || op >= 50 && op <= 59 || op >= 70 && op <= 73;
        }

        private static boolean readsA(int op) {
            return op >= 4 && op <= 21 || op >= 30 && op <= 33 || op == 42
                || op >= 50 && op <= 59 || op == 73;
        }

        private static boolean readsB(int op) {
            return op >= 4 && op <= 17 || op == 21 || op == 30 || op == 31
                || op == 51 || op >= 53 && op <= 59;
        }

        private static int predicatesReadBy(int op, int a, int b, int n) {
            if (op == 21) {
                return tickOf(n);
            }
            if (op == 34 || op == 35) {
                return tickOf(a) | tickOf(b);
            }
            return op == 36 || op >= 70 && op <= 72 ? tickOf(a) : 0;
        }

        private static int tickOf(int predicate) {
            return 1 << (REGISTERS + (predicate & 3));
        }

        private static int writtenBy(int op, int d) {
            if (op >= 30 && op <= 36 || op == 70 || op == 71) {
                return REGISTERS + (d & 3);
            }
            boolean register = op >= 2 && op <= 21 || op == 41 || op == 50 || op == 52
                || op >= 54 && op <= 59 || op == 72 || op == 73;
            return register ? d : NONE;
        }

        private static int waitOf(int op) {
            if (op == 7 || op == 8) {
                return 8;
            }
            if (op == 6 || op == 17 || op == 19) {
                return 3;
            }
            return op >= 70 ? 2 : 1;
        }
    }

    private static final class Block {
        final int number;
        final int[] ints = new int[SHARED_INTS];
        // Null as long as it is in none.
        Unit unit;
        int blocks;
        int threads;
        int alive;
        int waiting;

        Block(int number) {
            this.number = number;
        }

        void begin(Unit unit, int blocks, int threads) {
            this.unit = unit;
            this.blocks = blocks;
            this.threads = threads;
            alive = threads;
            waiting = 0;
            Arrays.fill(ints, 0);
        }
    }

    private static final class Unit {
        // A warp is made when its slot is first taken, and used again by later ones.
        final Warp[] warps = new Warp[MOST_SLOTS];
        final int[] load = new int[MOST_LANES];
        int slots;
        int free;
        int last;
        int went;
        int dividerTick;
        int sharedTick;

        Unit(int slots) {
            this.slots = slots;
            free = slots;
            last = slots - 1;
        }

        void begin(int slots) {
            this.slots = slots;
            free = slots;
            last = slots - 1;
            went = 0;
            dividerTick = 0;
            sharedTick = 0;
        }

        Warp busy(int slot) {
            if (slot < 0 || slot >= slots || slot >= warps.length) {
                return null;
            }
            Warp warp = warps[slot];
            return warp != null && warp.block != null ? warp : null;
        }

        void seat(Block block, int count, int lanes, Word[] kernel) {
            int number = 0;
            for (int s = 0; s < slots && s < warps.length && number < count; s++) {
                if (busy(s) == null) {
                    if (warps[s] == null) {
                        warps[s] = new Warp(lanes);
                    }
                    warps[s].begin(block, number, lanes);
                    warps[s].gather(kernel);
                    number++;
                }
            }
            free -= number;
        }

        void free(Block block) {
            for (int s = 0; s < slots; s++) {
                Warp warp = busy(s);
                if (warp != null && warp.block == block) {
                    warp.block = null;
                    free++;
                }
            }
            block.unit = null;
        }

        void wake(Block block, Word[] kernel) {
            for (int s = 0; s < slots; s++) {
                Warp warp = busy(s);
                if (warp != null && warp.block == block) {
                    warp.waiting = 0;
                    warp.gather(kernel);
                }
            }
        }

        /** The warp that goes in this cycle; null if none does. */
        Warp choose(int cycle) {
            int slot = last;
            for (int k = 0; k < slots; k++) {
                slot = slot + 1 < slots ? slot + 1 : 0;
                Warp warp = busy(slot);
                if (warp != null && isReady(warp, cycle)) {
                    last = slot;
                    return warp;
                }
            }
            return null;
        }

        private boolean isReady(Warp warp, int cycle) {
            if (warp.group == 0 || warp.readyTick > cycle) {
                return false;
            }
            Word word = warp.word;
            if (word == null) {
                return true;
            }
            return !(word.divides && dividerTick > cycle || word.usesShared && sharedTick > cycle);
        }

        /** Keeps the shared memory busy for the fullest bank, and answers the word's wait. */
        int crowd(Warp warp, int doing, int banks, int cycle) {
            Arrays.fill(load, 0);
            boolean eachLane = warp.word.op >= 58;
            long seen = 0L;
            int most = 0;
            for (int lane = 0; lane < warp.lanes; lane++) {
                if (in(doing, lane)) {
                    int k = warp.row[lane];
                    int bank = k & (banks - 1) & (MOST_LANES - 1);
                    if (eachLane || ((seen >>> k) & 1L) == 0L) {
                        load[bank]++;
                        most = Math.max(most, load[bank]);
                    }
                    seen |= 1L << k;
                }
            }
            sharedTick = cycle + Math.max(most, 1);
            return 2 + most;
        }

        int tell(int what) {
            switch (what) {
                case 0:
                    return dividerTick;
                case 1:
                    return sharedTick;
                case 2:
                    return last;
                case 3:
                    return went;
                default:
                    return NONE;
            }
        }
    }

    /** The warp of a slot: its threads, its group, and when that is ready. */
    private static final class Warp {
        // Null if the slot is free.
        Block block;
        int number;
        int lanes;
        int present;
        int ended;
        int waiting;
        int group;
        int place;
        // The word at the group's place; null if the kernel has none there.
        Word word;
        // Only its own words change a warp's ticks, so this holds until it goes or is woken.
        int readyTick;
        int memoryTick;
        int[] registers;
        int[] places;
        // One int for each lane that lives for one word: where it asks, or what a was.
        int[] row;
        final int[] predicates = new int[PREDICATES];
        final int[] ticks = new int[REGISTERS + PREDICATES];

        Warp(int lanes) {
            registers = new int[lanes * REGISTERS];
            places = new int[lanes];
            row = new int[lanes];
        }

        void begin(Block block, int number, int lanes) {
            this.block = block;
            this.number = number;
            this.lanes = lanes;
            int threads = Math.min(block.threads - number * lanes, lanes);
            present = threads >= MOST_LANES ? -1 : (1 << threads) - 1;
            ended = 0;
            waiting = 0;
            memoryTick = 0;
            if (places.length < lanes) {
                registers = new int[lanes * REGISTERS];
                places = new int[lanes];
                row = new int[lanes];
            }
            Arrays.fill(registers, 0);
            Arrays.fill(places, 0);
            Arrays.fill(predicates, 0);
            Arrays.fill(ticks, 0);
        }

        /** Finds the group, its word, and when what that needs is there. */
        void gather(Word[] kernel) {
            int active = present & ~ended & ~waiting;
            group = 0;
            place = 0;
            for (int lane = 0; lane < lanes; lane++) {
                if (in(active, lane)) {
                    if (group == 0 || places[lane] < place) {
                        group = 0;
                        place = places[lane];
                    }
                    if (places[lane] == place) {
                        group |= 1 << lane;
                    }
                }
            }
            word = place >= 0 && place < kernel.length ? kernel[place] : null;
            readyTick = word == null ? 0 : tickNeeded();
        }

        private int tickNeeded() {
            int tick = word.waitsForMemory ? memoryTick : 0;
            for (int k = 0; k < ticks.length; k++) {
                if (((word.needed >>> k) & 1) != 0) {
                    tick = Math.max(tick, ticks[k]);
                }
            }
            return tick;
        }

        int doing() {
            if (word.guard == NONE) {
                return group;
            }
            int holds = predicates[word.guard];
            return group & (word.guardIsFalse ? ~holds : holds);
        }

        int register(int lane, int r) {
            return registers[lane * REGISTERS + r];
        }

        void put(int lane, int r, int v) {
            registers[lane * REGISTERS + r] = v;
        }

        int dividingByZero(int doing) {
            int found = 0;
            for (int lane = 0; lane < lanes; lane++) {
                if (in(doing, lane) && register(lane, word.b) == 0) {
                    found |= 1 << lane;
                }
            }
            return found;
        }

        /** Lays where each lane asks in the row. */
        void aim(int doing) {
            for (int lane = 0; lane < lanes; lane++) {
                if (in(doing, lane)) {
                    row[lane] = register(lane, word.a) + word.n;
                }
            }
        }

        int aimedBeyond(int doing, int bound) {
            int found = 0;
            for (int lane = 0; lane < lanes; lane++) {
                if (in(doing, lane) && (row[lane] < 0 || row[lane] >= bound)) {
                    found |= 1 << lane;
                }
            }
            return found;
        }

        /** Moves the group on; a jump's place is read here, ahead of what the word writes. */
        void advance(int doing) {
            boolean jumps = word.op >= 40 && word.op <= 42;
            for (int lane = 0; lane < lanes; lane++) {
                if (jumps && in(doing, lane)) {
                    places[lane] = word.op == 42 ? register(lane, word.a) : word.n;
                } else if (in(group, lane)) {
                    places[lane] = place + 1;
                }
            }
        }

        void mark(int tick) {
            if (word.written != NONE) {
                ticks[word.written] = tick;
            }
            if (word.usesMemory) {
                memoryTick = tick;
            }
        }

        /** Does a word that has nothing to do with a memory, nor with places. */
        void act(int doing) {
            int op = word.op;
            if (op == 0) {
                ended |= doing;
                block.alive -= Integer.bitCount(doing);
            } else if (op == 1) {
                waiting |= doing;
                block.waiting += Integer.bitCount(doing);
            } else if (op == 73) {
                exchange(doing);
            } else if (word.written >= REGISTERS) {
                int pd = word.d & 3;
                predicates[pd] = (predicates[pd] & ~doing) | (truths(doing) & doing);
            } else if (word.written != NONE) {
                int how = Integer.bitCount(predicates[word.a & 3] & doing);
                for (int lane = 0; lane < lanes; lane++) {
                    if (in(doing, lane)) {
                        put(lane, word.d, op == 72 ? how : result(lane));
                    }
                }
            }
        }

        private void exchange(int doing) {
            for (int lane = 0; lane < lanes; lane++) {
                row[lane] = register(lane, word.a);
            }
            for (int lane = 0; lane < lanes; lane++) {
                if (in(doing, lane)) {
                    int other = lane ^ (word.n & (lanes - 1));
                    boolean does = other >= 0 && other < lanes && in(doing, other);
                    put(lane, word.d, row[does ? other : lane]);
                }
            }
        }

        /** The lanes for which the predicate that the word writes becomes true. */
        private int truths(int doing) {
            int pa = predicates[word.a & 3];
            int pb = predicates[word.b & 3];
            switch (word.op) {
                case 34:
                    return pa & pb;
                case 35:
                    return pa | pb;
                case 36:
                    return ~pa;
                case 70:
                    return (pa & doing) != 0 ? doing : 0;
                case 71:
                    return (pa & doing) == doing ? doing : 0;
                default:
                    return compared(doing);
            }
        }

        private int compared(int doing) {
            int found = 0;
            for (int lane = 0; lane < lanes; lane++) {
                if (in(doing, lane)) {
                    int a = register(lane, word.a);
                    int other = word.op >= 32 ? word.n : register(lane, word.b);
                    boolean less = word.op == 30 || word.op == 32;
                    if (less ? a < other : a == other) {
                        found |= 1 << lane;
                    }
                }
            }
            return found;
        }

        private int result(int lane) {
            int a = register(lane, word.a);
            int b = register(lane, word.b);
            int n = word.n;
            switch (word.op) {
                case 2:
                    return n;
                case 3:
                    return about(lane);
                case 18:
                    return a + n;
                case 19:
                    return a * n;
                case 20:
                    return a & n;
                case 21:
                    return in(predicates[n & 3], lane) ? a : b;
                case 41:
                    return place + 1;
                default:
                    return sum(word.op, a, b);
            }
        }

        private int about(int lane) {
            switch (word.n) {
                case 0:
                    return number * lanes + lane;
                case 1:
                    return block.number;
                case 2:
                    return block.threads;
                case 3:
                    return block.blocks;
                case 4:
                    return lane;
                case 5:
                    return number;
                default:
                    return lanes;
            }
        }

        private static int sum(int op, int a, int b) {
            switch (op) {
                case 4:
                    return a + b;
                case 5:
                    return a - b;
                case 6:
                    return a * b;
                case 7:
                    return b == 0 ? 0 : a / b;
                case 8:
                    return b == 0 ? 0 : a % b;
                case 9:
                    return a & b;
                case 10:
                    return a | b;
                case 11:
                    return a ^ b;
                case 12:
                    return a << b;
                case 13:
                    return a >>> b;
                case 14:
                    return a >> b;
                case 15:
                    return Math.min(a, b);
                case 16:
                    return Math.max(a, b);
                default:
                    return (int) (((long) a * b) >> 32);
            }
        }

        void useShared(int doing) {
            int[] ints = block.ints;
            for (int lane = 0; lane < lanes; lane++) {
                if (in(doing, lane)) {
                    int k = row[lane] & (SHARED_INTS - 1);
                    int old = ints[k];
                    int b = register(lane, word.b);
                    if (word.op != 52) {
                        ints[k] = word.op == 58 ? old + b : b;
                    }
                    if (word.op != 53) {
                        put(lane, word.d, old);
                    }
                }
            }
        }

        boolean hasThread(int lane) {
            return lane >= 0 && lane < lanes && in(present, lane);
        }

        int tell(int what) {
            switch (what) {
                case 0:
                    return block.number;
                case 1:
                    return number;
                case 2:
                    return Integer.bitCount(ended);
                case 3:
                    return Integer.bitCount(waiting);
                case 4:
                    return memoryTick;
                default:
                    return what >= 5 && what < 5 + ticks.length ? ticks[what - 5] : NONE;
            }
        }

        int tellLane(int lane, int r) {
            if (r < REGISTERS) {
                return register(lane, r);
            }
            if (r == REGISTERS) {
                return places[lane];
            }
            return in(predicates[(r - 17) & 3], lane) ? 1 : 0;
        }
    }

    /** Global memory, with the cache ahead of it and what is on its way there. */
    private static final class Memory {
        final int[] ints = new int[MOST_INTS];
        final Cache cache = new Cache();
        final Pending pending = new Pending();
        int size = LEAST_INTS;

        boolean has(int k) {
            return k >= 0 && k < size && k < ints.length;
        }

        void resize(int size) {
            for (int k = this.size; k < size && k < ints.length; k++) {
                ints[k] = 0;
            }
            this.size = size;
        }

        /** Asks for all that the lanes aim at, line by line, and answers the word's wait. */
        int ask(Warp warp, int doing, int cycle, int gates) {
            int latest = cycle + 1;
            int repeats = 0;
            int left = doing;
            for (int lane = 0; lane < warp.lanes; lane++) {
                if (in(left, lane)) {
                    int line = warp.row[lane] >> 3;
                    int together = lanesOf(warp, left, line);
                    int done = cache.fetch(line, gates, cycle);
                    repeats += askTogether(warp, together, done);
                    latest = Math.max(latest, done);
                    left &= ~together;
                }
            }
            return latest - cycle + (warp.word.op >= 54 ? repeats : 0);
        }

        private static int lanesOf(Warp warp, int lanes, int line) {
            int found = 0;
            for (int lane = 0; lane < warp.lanes; lane++) {
                if (in(lanes, lane) && warp.row[lane] >> 3 == line) {
                    found |= 1 << lane;
                }
            }
            return found;
        }

        /** Answers how many of these lanes ask for an int that one before them asks for. */
        private int askTogether(Warp warp, int lanes, int done) {
            int seen = 0;
            for (int lane = 0; lane < warp.lanes; lane++) {
                if (in(lanes, lane)) {
                    pending.add(warp, lane, done);
                    seen |= 1 << (warp.row[lane] & 7);
                }
            }
            return Integer.bitCount(lanes) - Integer.bitCount(seen);
        }

        void finish(int cycle) {
            if (pending.count > 0) {
                pending.finish(cycle, this);
            }
        }

        void perform(Ask ask) {
            if (!has(ask.address)) {
                return;
            }
            int old = ints[ask.address];
            ints[ask.address] = ask.leaves(old);
            ask.tellThread(old);
        }
    }

    private static final class Cache {
        final int[] lines = new int[MOST_GATES * GATE_PLACES];
        final int[] ticks = new int[MOST_GATES];
        int hits;
        int misses;

        Cache() {
            Arrays.fill(lines, NONE);
        }

        void empty() {
            Arrays.fill(lines, NONE);
        }

        void begin() {
            Arrays.fill(ticks, 0);
            hits = 0;
            misses = 0;
        }

        /** The cycle in which the line is done. */
        int fetch(int line, int gates, int cycle) {
            if (line < 0 || gates < 1 || gates > MOST_GATES) {
                return cycle;
            }
            int gate = line % gates;
            int place = gate * GATE_PLACES + line / gates % GATE_PLACES;
            int start = Math.max(cycle, ticks[gate]);
            if (lines[place] == line) {
                hits++;
                ticks[gate] = start + 1;
                return start + 4;
            }
            misses++;
            lines[place] = line;
            ticks[gate] = start + 5;
            return start + 12;
        }

        int tell(int gate, int place) {
            if (gate < 0 || gate >= MOST_GATES || place < 0 || place > GATE_PLACES) {
                return NONE;
            }
            return place == GATE_PLACES ? ticks[gate] : lines[gate * GATE_PLACES + place];
        }
    }

    /** What one lane has asked of global memory. */
    private static final class Ask {
        Ask next;
        Warp warp;
        Block block;
        Word word;
        int lane;
        int address;
        int b;
        int d;
        int done;

        void become(Warp warp, int lane, int done) {
            next = null;
            this.warp = warp;
            block = warp.block;
            word = warp.word;
            this.lane = lane;
            address = warp.row[lane];
            b = warp.register(lane, word.b);
            d = warp.register(lane, word.d);
            this.done = done;
        }

        int leaves(int old) {
            switch (word.op) {
                case 51:
                case 56:
                    return b;
                case 54:
                    return old + b;
                case 55:
                    return Math.max(old, b);
                case 57:
                    return old == d ? b : old;
                default:
                    return old;
            }
        }

        void tellThread(int old) {
            if (word.op != 51 && warp.block == block) {
                warp.put(lane, word.d, old);
            }
        }
    }

    /**
     * What is asked for and not done yet. It is strewn over rows by the lowest bits of its time, so
     * that a cycle looks at few; in a row it stands in the order in which it was asked for.
     */
    private static final class Pending {
        private static final int ROWS = 64;
        final Ask[] first = new Ask[ROWS];
        final Ask[] last = new Ask[ROWS];
        // Those that are done are used again: nothing is made while there are some.
        Ask spare;
        int count;

        void add(Warp warp, int lane, int done) {
            Ask ask = spare;
            if (ask == null) {
                ask = new Ask();
            } else {
                spare = ask.next;
            }
            ask.become(warp, lane, done);
            int row = done & (ROWS - 1);
            if (last[row] == null) {
                first[row] = ask;
            } else {
                last[row].next = ask;
            }
            last[row] = ask;
            count++;
        }

        void finish(int cycle, Memory memory) {
            int row = cycle & (ROWS - 1);
            Ask before = null;
            Ask ask = first[row];
            while (ask != null) {
                Ask next = ask.next;
                if (ask.done == cycle) {
                    memory.perform(ask);
                    unlink(row, before, ask);
                } else {
                    before = ask;
                }
                ask = next;
            }
        }

        private void unlink(int row, Ask before, Ask ask) {
            if (before == null) {
                first[row] = ask.next;
            } else {
                before.next = ask.next;
            }
            if (last[row] == ask) {
                last[row] = before;
            }
            ask.next = spare;
            spare = ask;
            count--;
        }

        void forget() {
            for (int row = 0; row < ROWS; row++) {
                if (last[row] != null) {
                    last[row].next = spare;
                    spare = first[row];
                    first[row] = null;
                    last[row] = null;
                }
            }
            count = 0;
        }
    }
}
