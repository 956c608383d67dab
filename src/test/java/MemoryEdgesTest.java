/** Boundary cases of the terms TICKS, SHARED MEMORY, GLOBAL MEMORY, CACHE and PENDING, a sentence each. */
public final class MemoryEdgesTest extends Edges {
    private static final String TICKS = "Term TICKS";
    private static final String SHARED = "Term SHARED MEMORY";
    private static final String GLOBAL = "Term GLOBAL MEMORY";
    private static final String CACHE = "Term CACHE";
    private static final String PENDING = "Term PENDING";
    private static final int GATE_TICK = 4;

    public static void main(String[] args) {
        ticksOfOps();
        ticksWhateverGuards();
        memoryTicks();
        theMostOfABank();
        differentIntsOfABank();
        lanesOfABank();
        sharedTickOfNone();
        linesOfEightInts();
        gatesOfLines();
        placesOfLines();
        oneCacheOfAll();
        emptyAtFirst();
        gateTicksAtTheBeginning();
        inTheOrderLanesAsk();
        eachBeginsAt();
        hitsAndMisses();
        aHitOnItsWay();
        itComesThere();
        theLatestOne();
        oneIfNoneIsAskedFor();
        oneMoreForEachLane();
        askedForAsTheWordGoes();
        pendingTillItsLineIsDone();
        doneLaneByLane();
        inItsSlotYet();
        Check.end();
    }

    /** The tick of d (or pd, 5 and 1) of a word that goes in cycle 1. */
    private static void tick(int op, int what, int want, long word) {
        Mill m = launched(mill(put(2, 1), word, jump(2)), 1, 1);
        m.run(2);
        due("op " + op + " went", m.state(2), 2);
        due("op " + op + ": tick", m.slot(0, 0, what), want);
        due("op " + op + ": divider tick", m.unit(0, 0), op == 7 || op == 8 ? 9 : 0);
    }

    private static void ticksOfOps() {
        sentence(TICKS, "that one's tick is t + 1; with 6, 17, 19 t + 3; with 70 to 73 t + 2; with 7, 8 t + 8");
        for (int op : new int[] {2, 3, 4, 5, 9, 10, 11, 12, 13, 14, 15, 16, 18, 20, 21, 41}) {
            tick(op, REGISTER_TICK + 5, 2, w(op, 5, 2, 2, 2));
        }
        for (int op = 30; op <= 36; op++) {
            tick(op, PREDICATE_TICK + 1, 2, w(op, 5, 2, 2, 2));
        }
        for (int op : new int[] {6, 17, 19}) {
            tick(op, REGISTER_TICK + 5, 4, w(op, 5, 2, 2, 2));
        }
        for (int op : new int[] {7, 8}) {
            tick(op, REGISTER_TICK + 5, 9, w(op, 5, 2, 2, 2));
        }
        tick(70, PREDICATE_TICK + 1, 3, w(70, 5, 2, 2, 2));
        tick(71, PREDICATE_TICK + 1, 3, w(71, 5, 2, 2, 2));
        tick(72, REGISTER_TICK + 5, 3, w(72, 5, 2, 2, 2));
        tick(73, REGISTER_TICK + 5, 3, w(73, 5, 2, 2, 2));
    }

    private static void ticksWhateverGuards() {
        sentence(TICKS, "behind a WORD in cycle t that writes d or pd (whatever GUARDS)");
        tick(2, REGISTER_TICK + 5, 2, on(0, w(2, 5, 2, 2, 2)));
        tick(19, REGISTER_TICK + 5, 4, on(0, w(19, 5, 2, 2, 2)));
        tick(33, PREDICATE_TICK + 1, 2, on(0, w(33, 5, 2, 2, 2)));
        tick(71, PREDICATE_TICK + 1, 3, on(0, w(71, 5, 2, 2, 2)));
        tick(73, REGISTER_TICK + 5, 3, on(0, w(73, 5, 2, 2, 2)));
        tick(41, REGISTER_TICK + 5, 2, on(0, w(41, 5, 2, 2, 2)));
        tick(50, REGISTER_TICK + 5, 2, on(0, w(50, 5, 2, 2, 2)));
        tick(52, REGISTER_TICK + 5, 3, on(0, w(52, 5, 2, 2, 2)));
        sentence(TICKS, "with 7, 8 t + 8, and the UNIT's DIVIDER tick, too");
        tick(7, REGISTER_TICK + 5, 9, on(0, w(7, 5, 2, 2, 2)));
        tick(8, REGISTER_TICK + 5, 9, on(0, w(8, 5, 2, 2, 2)));
    }

    private static void memoryTicks() {
        sentence(TICKS, "with 50 to 59 t + L, and that is the MEMORY tick, too (also of 51, 53)");
        for (int op = 50; op <= 59; op++) {
            Mill m = launched(mill(put(2, 1), w(op, 5, 0, 2, 8), jump(2)), 1, 1);
            m.run(2);
            // A miss, or one int of shared memory.
            int want = ofShared(op) ? 1 + 3 : 1 + 12;
            due("op " + op + ": memory tick", m.slot(0, 0, MEMORY_TICK), want);
            due("op " + op + ": d's tick", m.slot(0, 0, REGISTER_TICK + 5), op == 51 || op == 53 ? 0 : want);
        }
    }

    /** A word on shared memory in cycle 4; lane k asks for int k * stride + from. */
    private static Mill sharedWord(int lanes, int banks, int op, int stride, int from) {
        Mill m = new Mill();
        yes("sizes", m.sizes(lanes, 1, 1, banks, 1, 512));
        kernel(m, about(1, 4), times(1, 1, stride), w(op, 3, 1, 2, from), jump(3));
        launched(m, 1, lanes).upTo(5);
        return m;
    }

    private static void most(int want, int lanes, int banks, int op, int stride, int from) {
        Mill m = sharedWord(lanes, banks, op, stride, from);
        String what = "op " + op + ", " + lanes + " lanes, " + banks + " banks, every " + stride + " from " + from;
        due(what + ": shared tick", m.unit(0, 1), 4 + want);
        due(what + ": memory tick", m.slot(0, 0, MEMORY_TICK), 4 + 2 + want);
    }

    private static void theMostOfABank() {
        sentence(SHARED, "m is the most that one BANK has (an int's number modulo BANKS)");
        int[] banks = {1, 2, 4, 8, 16, 32};
        for (int op : new int[] {52, 58}) {
            for (int count : banks) {
                // 32 ints in a row are shared out evenly; every second one of 64 is in half of the banks.
                most(32 / count, 32, count, op, 1, 0);
                most(Math.min(32, 64 / count), 32, count, op, 2, 0);
                most(Math.min(2, 2 * 32 / count), 2, count, op, 32, 31);
            }
        }
    }

    private static void differentIntsOfABank() {
        sentence(SHARED, "of 52, 53 how many different ints of it the LANES that DO it ask for");
        for (int op : new int[] {52, 53}) {
            most(1, 1, 1, op, 1, 63);
            most(1, 32, 32, op, 1, 0);
            most(1, 32, 32, op, 1, 32);
            most(2, 32, 16, op, 1, 0);
            most(32, 32, 1, op, 1, 0);
            most(1, 32, 1, op, 0, 5);
            most(2, 32, 32, op, 2, 1);
            most(4, 4, 4, op, 4, 0);
            most(1, 4, 4, op, 5, 0);
            most(1, 4, 4, op, 1, 60);
            due("op " + op + ": two at one int and one more of its bank", mixed(op).unit(0, 1), 5 + 2);
            due("op " + op + ": two ints by turns", byTurns(op).unit(0, 1), 4 + 2);
        }
    }

    private static void lanesOfABank() {
        sentence(SHARED, "of 58, 59 how many LANES; L is 2 + m; the UNIT's SHARED tick is t + m");
        for (int op : new int[] {58, 59}) {
            most(1, 1, 1, op, 1, 63);
            most(1, 32, 32, op, 1, 0);
            most(2, 32, 16, op, 1, 0);
            most(32, 32, 1, op, 1, 0);
            most(32, 32, 1, op, 0, 5);
            most(32, 32, 32, op, 0, 63);
            most(2, 32, 32, op, 2, 1);
            most(4, 4, 4, op, 4, 0);
            most(1, 4, 4, op, 1, 60);
            due("op " + op + ": two at one int and one more of its bank", mixed(op).unit(0, 1), 5 + 3);
            due("op " + op + ": two ints by turns", byTurns(op).unit(0, 1), 4 + 4);
        }
    }

    /** Lanes 0 and 2 ask for int 0, lanes 1 and 3 for int 4, of the same bank; in cycle 4. */
    private static Mill byTurns(int op) {
        Mill m = sized(4, 1, 1, about(1, 4), w(20, 2, 1, 0, 1), equal(0, 2, 1), on(0, put(2, 4)), w(op, 3, 2, 1, 0), jump(5));
        launched(m, 1, 4).upTo(5);
        return m;
    }

    /** Lanes 0 and 1 ask for int 0, lane 2 for int 4 (of the same bank), lane 3 for int 1; in cycle 5. */
    private static Mill mixed(int op) {
        Mill m = sized(4, 1, 1, about(1, 4), equal(0, 1, 2), equal(1, 1, 3), on(0, put(2, 4)), on(1, put(2, 1)),
            w(op, 3, 2, 1, 0), jump(6));
        launched(m, 1, 4).upTo(6);
        return m;
    }

    private static void sharedTickOfNone() {
        sentence(SHARED, "(t + 1, if m is 0)");
        for (int op : new int[] {52, 53, 58, 59}) {
            Mill m = launched(mill(put(2, 1), on(0, w(op, 5, 2, 2, 0)), jump(2)), 1, 4);
            m.run(2);
            due("op " + op + ": shared tick", m.unit(0, 1), 2);
            due("op " + op + ": memory tick, L is 2", m.slot(0, 0, MEMORY_TICK), 3);
            due("op " + op + ": it went", m.lane(0, 0, 0, PLACE), 2);
        }
    }

    /** Two lanes load the ints x and y in cycle 4. */
    private static Mill twoLoads(Mill m, int x, int y) {
        kernel(m, about(1, 4), equal(0, 1, 1), put(2, x), on(0, put(2, y)), load(3, 2, 0), jump(5));
        launched(m, 1, 2).upTo(5);
        return m;
    }

    private static Mill ofSizes(int lanes, int units, int gates, int ints) {
        Mill m = new Mill();
        yes("sizes", m.sizes(lanes, 1, units, 1, gates, ints));
        return m;
    }

    private static void linesOfEightInts() {
        sentence(GLOBAL, "LINES are 8 ints each");
        int[][] all = {{0, 7, 1}, {7, 8, 2}, {8, 15, 1}, {504, 511, 1}, {503, 504, 2}, {0, 0, 1}};
        for (int[] p : all) {
            Mill m = twoLoads(ofSizes(2, 1, 2, 512), p[0], p[1]);
            m.states("ints " + p[0] + " and " + p[1], 4, 0, p[2]);
        }
    }

    private static void gatesOfLines() {
        sentence(CACHE, "has GATES (a LINE's is its number modulo GATES)");
        for (int gates : new int[] {1, 2, 4, 8}) {
            for (int line : new int[] {0, 1, gates - 1, gates, 511}) {
                Mill m = ofSizes(1, 1, gates, 4096);
                launched(kernel(m, load(1, 0, line * 8 + 7), jump(1)), 1, 1).run(1);
                for (int gate = 0; gate < gates; gate++) {
                    due(gates + " gates, line " + line + ", gate " + gate, m.cached(gate, GATE_TICK), gate == line % gates ? 5 : 0);
                }
            }
        }
    }

    private static void placesOfLines() {
        sentence(CACHE, "each with 4 PLACES (a LINE's: its number by GATES, modulo 4)");
        int[][] all = {{1, 0, 0}, {1, 3, 3}, {1, 4, 0}, {1, 511, 3}, {2, 1, 0}, {2, 6, 3}, {2, 8, 0}, {2, 511, 3}, {4, 15, 3},
            {4, 16, 0}, {8, 31, 3}, {8, 32, 0}, {8, 511, 3}};
        for (int[] c : all) {
            Mill m = ofSizes(1, 1, c[0], 4096);
            launched(kernel(m, load(1, 0, c[1] * 8), jump(1)), 1, 1).run(1);
            for (int place = 0; place < 4; place++) {
                due(c[0] + " gates, line " + c[1] + ", place " + place, m.cached(c[1] % c[0], place), place == c[2] ? c[1] : NONE);
            }
        }
    }

    private static void oneCacheOfAll() {
        sentence(CACHE, "THE CACHE (of all)");
        // Block 1 of unit 1 finds what block 0 of unit 0 has asked for, and keeps to the same gate's tick.
        Mill m = asksBehind(2, 0);
        m.states("a hit in unit 1", 4, 1, 1);
        due("the gate is one for both", m.cached(0, GATE_TICK), 9);
    }

    private static void emptyAtFirst() {
        sentence(CACHE, "empty at first");
        Mill m = new Mill();
        for (int gate = 0; gate < 2; gate++) {
            for (int place = 0; place < 4; place++) {
                due("gate " + gate + ", place " + place, m.cached(gate, place), NONE);
            }
        }
        launched(kernel(m, load(1, 0, 0), jump(1)), 1, 1).run(1);
        m.states("line 0 is no hit, either", 4, 0, 1);
    }

    private static void gateTicksAtTheBeginning() {
        sentence(CACHE, "and a tick (0 at a LAUNCH's beginning)");
        Mill m = launched(mill(load(1, 0, 0), jump(1)), 1, 1);
        due("at first", m.cached(0, GATE_TICK), 0);
        m.run(1);
        due("behind a miss", m.cached(0, GATE_TICK), 5);
        m.stop();
        due("behind stop", m.cached(0, GATE_TICK), 5);
        launched(m, 1, 1);
        due("at the next one's beginning", m.cached(0, GATE_TICK), 0);
        m.run(1);
        due("its line begins in cycle 0", m.slot(0, 0, MEMORY_TICK), 4);
    }

    private static void inTheOrderLanesAsk() {
        sentence(GLOBAL, "The different LINES, in the order in which LANES that DO it ask for them");
        // One gate: the line of lane 0 begins in cycle 4, that of lane 1 in cycle 9.
        int[][] all = {{16, 0}, {0, 16}, {40, 32}};
        for (int[] p : all) {
            Mill m = ofSizes(2, 1, 1, 512);
            m.set(p[0], 71);
            m.set(p[1], 72);
            twoLoads(m, p[0], p[1]);
            m.upTo(16);
            m.lanes("behind cycle 15", 0, 0, 3, 0, 0);
            m.run(1);
            m.lanes("behind cycle 16", 0, 0, 3, 71, 0);
            m.upTo(21);
            m.lanes("behind cycle 20", 0, 0, 3, 71, 0);
            m.run(1);
            m.lanes("behind cycle 21", 0, 0, 3, 71, 72);
        }
        // Lane 0 does not do it: the line of lane 1 is the first one.
        Mill one = kernel(ofSizes(2, 1, 1, 512), about(1, 4), equal(0, 1, 1), times(2, 1, 64), on(0, load(3, 2, 0)), jump(4));
        launched(one, 1, 2).upTo(6);
        due("line 8 alone", one.cached(0, 0), 8);
        one.states("line 8 alone", 4, 0, 1);
    }

    /** Block 0 asks for line 0 in cycle 3 (the only gate's tick is 8 then), block 1 for a line in cycle 3 + waits. */
    private static Mill asksBehind(int waits, int line) {
        Mill m = kernel(ofSizes(1, 2, 1, 512), about(1, 1), equal(0, 1, 1), on(0, jump(10)), load(2, 0, 0), jump(4));
        for (int k = 0; k < waits; k++) {
            m.word(10 + k, put(2, 0));
        }
        kernelAt(m, 10 + waits, load(3, 0, line * 8), jump(11 + waits));
        launched(m, 2, 1).upTo(4 + waits);
        return m;
    }

    private static void eachBeginsAt() {
        sentence(GLOBAL, "each begins at s: t, or its GATE's tick, if that is more");
        int[][] all = {{0, 8}, {1, 8}, {4, 8}, {5, 8}, {6, 9}, {7, 10}};
        for (int[] c : all) {
            Mill m = asksBehind(c[0], 1);
            due("asked for in cycle " + (3 + c[0]), m.slot(1, 0, MEMORY_TICK), c[1] + 12);
            due("the gate's tick", m.cached(0, GATE_TICK), c[1] + 5);
        }
    }

    private static void hitsAndMisses() {
        sentence(CACHE, "it is a HIT, if it is in its PLACE: it is done at s + 4, and the GATE's tick is s + 1");
        // A miss in cycle 0, done in 12; a hit in cycle 12, done in 16; the end in cycle 16.
        Mill m = launched(mill(load(1, 0, 0), load(2, 0, 7), END), 1, 1);
        m.upTo(13);
        m.states("one of either", 4, 1, 1);
        due("memory tick", m.slot(0, 0, MEMORY_TICK), 16);
        due("d's tick", m.slot(0, 0, REGISTER_TICK + 2), 16);
        due("the gate's tick", m.cached(0, GATE_TICK), 13);
        due("over", m.run(500), 2);
        due("17 cycles", m.state(1), 17);
        sentence(CACHE, "else it comes there, is done at s + 12, the GATE's tick is s + 5");
        Mill miss = launched(mill(put(1, 1), load(2, 0, 8), END), 1, 1);
        miss.upTo(2);
        miss.states("a miss", 4, 0, 1);
        due("memory tick", miss.slot(0, 0, MEMORY_TICK), 13);
        due("the gate's tick", miss.cached(1, GATE_TICK), 6);
        due("it is there", miss.cached(1, 0), 1);
        due("over", miss.run(500), 2);
        due("14 cycles", miss.state(1), 14);
    }

    private static void aHitOnItsWay() {
        sentence(CACHE, "it is a HIT, if it is in its PLACE");
        // Line 0 is done in cycle 15; who asks for it in cycle 4 begins at 8 and has it in 12.
        int[][] all = {{0, 8}, {1, 8}, {5, 8}, {6, 9}};
        for (int[] c : all) {
            Mill m = asksBehind(c[0], 0);
            m.states("a hit", 4, 1, 1);
            due("asked for in cycle " + (3 + c[0]), m.slot(1, 0, MEMORY_TICK), c[1] + 4);
            due("the gate's tick", m.cached(0, GATE_TICK), c[1] + 1);
            due("block 0 has it when it had it", m.slot(0, 0, MEMORY_TICK), 15);
        }
    }

    private static void itComesThere() {
        sentence(CACHE, "else it comes there");
        // Lines 0 and 8 have the same place: each drives the other one out.
        Mill m = launched(mill(load(1, 0, 0), load(2, 0, 64), load(3, 0, 0), load(4, 0, 16), load(5, 0, 0), jump(5)), 1, 1);
        m.run(200);
        m.states("a hit for the last one alone", 4, 1, 4);
        due("line 0", m.cached(0, 0), 0);
        due("line 2", m.cached(0, 1), 2);
        // In one word, too: lane 1 drives out what lane 0 has asked for, which is done all the same.
        Mill both = ofSizes(2, 1, 2, 512);
        both.set(0, 71);
        both.set(64, 72);
        twoLoads(both, 0, 64);
        both.states("no hit", 4, 0, 2);
        due("the second one stays", both.cached(0, 0), 8);
        both.run(100);
        both.lanes("both are read", 0, 0, 3, 71, 72);
        // Written lines come, too.
        Mill written = launched(mill(store(0, 0, 24), jump(1)), 1, 1);
        written.run(1);
        due("line 3", written.cached(1, 1), 3);
    }

    private static void theLatestOne() {
        sentence(GLOBAL, "L is the latest one's, less t");
        // Line 1 (gate 1) is in the cache; lane 0 asks for line 0 or 1 and lane 1 for the other one, in cycle 12.
        for (int first : new int[] {0, 1}) {
            Mill m = ofSizes(2, 1, 2, 512);
            m.set(0, 70);
            m.set(8, 78);
            kernel(m, load(4, 0, 8), about(1, 4), times(2, 1, first == 0 ? 8 : -8), load(3, 2, first * 8), jump(4));
            launched(m, 1, 2).upTo(13);
            m.states("a hit and two misses", 4, 1, 2);
            due("memory tick", m.slot(0, 0, MEMORY_TICK), 24);
            due("d's tick", m.slot(0, 0, REGISTER_TICK + 3), 24);
            m.upTo(17);
            due("the hit is done in cycle 16", m.lane(0, 0, 1 - first, 3), 78);
            due("the miss is not", m.lane(0, 0, first, 3), 0);
            m.upTo(25);
            due("it is done in cycle 24", m.lane(0, 0, first, 3), 70);
        }
    }

    private static void oneIfNoneIsAskedFor() {
        sentence(GLOBAL, "(1, if none is asked for)");
        for (int op : new int[] {50, 51, 54, 55, 56, 57}) {
            Mill m = launched(mill(put(2, 1), on(0, w(op, 5, 2, 2, 0)), jump(2)), 1, 4);
            m.run(2);
            due("op " + op + ": memory tick", m.slot(0, 0, MEMORY_TICK), 2);
            due("op " + op + ": d's tick", m.slot(0, 0, REGISTER_TICK + 5), op == 51 ? 0 : 2);
            m.states("op " + op + ": no line", 4, 0, 0);
            due("op " + op + ": nothing is pending", m.state(19), 0);
        }
    }

    /** The four lanes ask for these ints in cycle 7, all of them misses; L is to be as wanted. */
    private static void more(int op, int want, int... ints) {
        Mill m = sized(4, 1, 1, about(1, 4));
        for (int lane = 1; lane < 4; lane++) {
            kernelAt(m, 2 * lane - 1, equal(0, 1, lane), on(0, put(2, ints[lane] - ints[0])));
        }
        kernelAt(m, 7, w(op, 3, 2, 1, ints[0]), jump(8));
        launched(m, 1, 4).upTo(8);
        String what = "op " + op + " of ints " + ints[0] + " " + ints[1] + " " + ints[2] + " " + ints[3];
        due(what + ": memory tick", m.slot(0, 0, MEMORY_TICK), 7 + want);
        m.upTo(19);
        due(what + ": pending", m.state(19), 4);
        m.run(1);
        due(what + ": the line is done in cycle 19 all the same", m.state(19), 0);
    }

    private static void oneMoreForEachLane() {
        sentence(GLOBAL, "of 54 to 57 and 1 more for each LANE whose int a LANE before it asks for, too");
        for (int op = 54; op <= 57; op++) {
            more(op, 12 + 3, 8, 8, 8, 8);
            more(op, 12 + 2, 8, 8, 9, 9);
            more(op, 12 + 2, 9, 8, 9, 8);
            more(op, 12 + 1, 8, 9, 10, 8);
            more(op, 12, 8, 9, 10, 15);
            more(op, 12, 9, 10, 11, 15);
            more(op, 12 + 1, 9, 10, 11, 9);
            more(op, 12 + 2, 8, 8, 16, 16);
            more(op, 12 + 2, 17, 9, 17, 9);
            more(op, 12 + 1, 8, 16, 16, 9);
        }
        for (int op : new int[] {50, 51}) {
            more(op, 12, 8, 8, 8, 8);
            more(op, 12, 8, 9, 10, 8);
        }
    }

    private static void askedForAsTheWordGoes() {
        sentence(PENDING, "50 to 57 are asked for as the WORD goes, with what a, b and d (of 57) are then");
        // a and b are others behind the word, long ahead of cycle 15, in which it is done.
        int[][] want = {{51, 7}, {54, 5 + 7}, {55, 7}, {56, 7}, {57, 7}};
        for (int[] o : want) {
            Mill m = mill(put(1, 8), put(2, 7), put(3, 5), w(o[0], 3, 1, 2, 0), put(1, 9), put(2, 6), jump(6));
            m.set(8, 5);
            launched(m, 1, 1).upTo(10);
            m.lanes("a is another", 0, 0, 1, 9);
            m.lanes("b is another", 0, 0, 2, 6);
            m.upTo(30);
            due("op " + o[0] + ": int 8", m.global(8), o[1]);
            due("op " + o[0] + ": int 9", m.global(9), 0);
            m.lanes("op " + o[0] + ": d", 0, 0, 3, 5);
        }
        // The memory is read when it is done, not as the word goes: block 1 writes ahead of that.
        Mill late = kernel(ofSizes(1, 2, 1, 512), about(1, 1), equal(0, 1, 1), on(0, jump(10)), load(2, 0, 1), jump(4));
        kernelAt(late, 10, put(2, 6), store(0, 2, 1), jump(12));
        launched(late, 2, 1).upTo(16);
        late.lanes("block 0 finds what block 1 has written in cycle 12", 0, 0, 2, 6);
    }

    private static void pendingTillItsLineIsDone() {
        sentence(PENDING, "each LANE's is PENDING till its LINE is done, and DONE then");
        // Lanes 0 to 3 ask for lines 0 to 3 in cycle 4: 0 and 1 are done in cycle 16, 2 and 3 in cycle 21.
        Mill m = launched(mill(about(1, 4), times(1, 1, 8), load(2, 1, 0), jump(3)), 1, 4);
        int[][] counts = {{4, 0}, {5, 4}, {16, 4}, {17, 2}, {21, 2}, {22, 0}};
        for (int[] c : counts) {
            m.upTo(c[0]);
            due("behind " + c[0] + " cycles", m.state(19), c[1]);
        }
        farApart();
        // Lanes of one line are done together, whatever lanes are between them.
        Mill together = launched(mill(about(1, 4), w(20, 2, 1, 0, 1), times(2, 2, 16), load(3, 2, 0), jump(4)), 1, 4);
        together.upTo(17);
        due("lanes 0 and 2 ask for line 0, 1 and 3 for line 2", together.state(19), 4);
        together.run(1);
        due("two are done in cycle 17", together.state(19), 2);
        together.upTo(22);
        due("no more till cycle 21", together.state(19), 2);
        together.run(1);
        due("two more in cycle 22", together.state(19), 0);
    }

    /** Warp 0 asks in cycle 10 for 32 lines of gate 0, warp 1 in cycle 11 for one of gate 1. */
    private static void farApart() {
        Mill m = sized(32, 2, 1, about(1, 4), about(2, 5), times(3, 1, 16), equal(0, 2, 1), on(0, jump(20)), load(4, 3, 0), jump(6));
        kernelAt(m, 20, load(4, 0, 8), jump(21));
        for (int lane = 0; lane < 32; lane++) {
            m.set(16 * lane, 100 + lane);
        }
        m.set(8, 99);
        launched(m, 1, 64).upTo(23);
        due("lane 0 is done in cycle 22", m.state(19), 31 + 32);
        m.run(1);
        due("all lanes of warp 1 in cycle 23", m.state(19), 31);
        due("lane 31 of warp 1", m.lane(0, 1, 31, 4), 99);
        for (int lane = 1; lane < 32; lane++) {
            m.upTo(22 + 5 * lane);
            due("lane " + lane + " is pending", m.lane(0, 0, lane, 4), 0);
            m.run(1);
            due("lane " + lane + " is done", m.lane(0, 0, lane, 4), 100 + lane);
            due("those behind it are not", m.state(19), 31 - lane);
        }
    }

    private static void doneLaneByLane() {
        sentence(PENDING, "what it is to do there is done (LANE by LANE, those of a LINE together)");
        // Lanes 0, 1 and 3 add to int 8, lane 2 to int 16, of another line; both lines are done in cycle 16.
        Mill m = launched(mill(about(1, 4), equal(0, 1, 2), on(0, put(2, 8)), add(3, 1, 10), w(54, 4, 2, 3, 8), jump(5)), 1, 4);
        m.upTo(17);
        m.lanes("each finds what those of its line before it left", 0, 0, 4, 0, 10, 0, 21);
        due("int 8", m.global(8), 34);
        due("int 16", m.global(16), 12);
    }

    private static void inItsSlotYet() {
        sentence(PENDING, "d becomes what is told, if its THREAD is in its SLOT yet");
        // What a launch that was given up has asked for does not come to the next one's thread in the slot.
        Mill m = mill(load(1, 0, 8), jump(1));
        m.set(8, 5);
        launched(m, 1, 1).run(3);
        m.stop();
        m.word(0, jump(0));
        launched(m, 1, 1).run(50);
        m.lanes("another thread's d", 0, 0, 1, 0);
        // A thread cannot end ahead of it: it ends in cycle 12, when d is there.
        Mill waits = mill(load(1, 0, 8), END);
        waits.set(8, 5);
        launched(waits, 1, 2).upTo(12);
        due("it is in its slot", waits.slot(0, 0, 0), 0);
        due("and has not ended", waits.slot(0, 0, 2), 0);
        due("over in cycle 12", waits.run(500), 2);
        due("13 cycles", waits.state(1), 13);
    }
}
