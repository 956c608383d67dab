/** Boundary cases of the promises 1 to 14, a sentence each. */
public final class PromiseEdgesTest extends Edges {
    private static final String[] PROMISES = {"", "Promise 1: A new object", "Promise 2: sizes", "Promise 3: word",
        "Promise 4: set", "Promise 5: launch", "Promise 6: run", "Promise 7: stop", "Promise 8: global", "Promise 9: state", "Promise 10: unit",
        "Promise 11: cached", "Promise 12: slot", "Promise 13: lane", "Promise 14: shared"};
    private static final int GATE_TICK = 4;

    public static void main(String[] args) {
        aNewObject();
        sizesEmptyTheCache();
        sizesEndTheLaunch();
        sizesCountAnew();
        sizesClearTicks();
        sizesKeepTheKernel();
        sizesKeepTheInts();
        sizesBringZeros();
        sizesAreAllOthers();
        sizesRefuseOthers();
        sizesRefuseUnderWay();
        wordRefusesOthers();
        wordRefusesUnderWay();
        setRefusesOthers();
        setRefusesUnderWay();
        launchBegins();
        launchKeepsTheCache();
        launchRefusesUnderWay();
        launchRefusesWhatIsNone();

        runRefusesOtherNumbers();
        runAtMostSoMany();
        runTellsHowItStands();
        runWhenCyclesAreFull();
        runAsksForNFirst();
        runEndsInItsMidst();
        runDoesNoneBehindTheEnd();
        stopGivesUp();
        stopFreesSlots();
        stopForgetsPending();
        stopKeepsAllElse();
        stopRefusesWithoutALaunch();

        globalRefusesOthers();
        stateRefusesOthers();
        stateOfTheLatestLaunch();
        stateCountsLines();
        stateCountsBlocks();
        stateTellsSizes();
        stateCountsWords();
        stateWithoutATrap();
        stateOfATrap();
        statePartly();
        statePending();
        unitRefusesOthers();
        unitTellsTicks();
        unitTheLastSlot();
        unitCountsWords();
        cachedRefusesOthers();
        slotRefusesOthers();
        slotThatIsFree();
        slotTellsItsWarp();
        slotTellsAll();
        laneRefusesOthers();
        laneOfAFreeSlot();
        laneWithoutAThread();
        sharedOfABlockInAUnit();
        sharedRefusesOthers();
        Check.end();
    }

    private static void promise(int number, String words) {
        sentence(PROMISES[number], words);
    }

    private static Mill endless() {
        return mill(jump(0));
    }

    /** One that is over, all blocks having ended. */
    private static Mill over() {
        Mill m = launched(mill(load(1, 0, 8), END), 1, 1);
        due("over", m.run(500), 2);
        return m;
    }

    /** One that is over by a trap in cycle 0. */
    private static Mill trapped() {
        Mill m = launched(mill(NO_WORD), 1, 1);
        due("over by a trap", m.run(500), 3);
        return m;
    }

    private static void aNewObject() {
        promise(1, "SIZES: 4 LANES, 4 SLOTS, 2 UNITS, 4 BANKS, 2 GATES, 512 INTS");
        Mill m = new Mill();
        m.states("a new one", 13, 4, 4, 2, 4, 2, 512);
        m.states("nothing has been", 0, 0, 0, 0, 0, 0, 0, 0, 0, 0, 0, 0, 0, 0);
        due("nothing is pending", m.state(19), 0);
        due("no int 512", m.global(512), NO_SUCH);
        due("no unit 2", m.unit(2, 2), NONE);
        due("no gate 2", m.cached(2, GATE_TICK), NONE);
        due("no slot 4", m.slot(0, 4, 2), NONE);
        no("17 threads", m.launch(1, 17));
        yes("16 threads", m.launch(1, 16));
        // Four banks: four lanes at ints 0, 4, 8 and 12 are four of one bank.
        Mill banks = launched(mill(about(1, 4), times(1, 1, 4), w(52, 2, 1, 0, 0), jump(3)), 1, 4);
        banks.upTo(5);
        due("four of one bank", banks.unit(0, 1), 8);
    }

    private static void sizesEmptyTheCache() {
        promise(2, "the CACHE is empty then");
        Mill m = launched(sized(1, 1, 1, load(1, 0, 8), load(2, 0, 0), END), 1, 1);
        due("over", m.run(500), 2);
        due("line 0 was there", m.cached(0, 0), 0);
        due("line 1 was there", m.cached(1, 0), 1);
        yes("the same sizes", m.sizes(1, 1, 1, 4, 2, 512));
        for (int gate = 0; gate < 2; gate++) {
            for (int place = 0; place < 4; place++) {
                due("gate " + gate + ", place " + place, m.cached(gate, place), NONE);
            }
        }
        launched(m, 1, 1).run(500);
        m.states("both miss again", 4, 0, 2);
        // A gate that was there ahead of fewer gates is empty when it is there again.
        yes("fewer gates", m.sizes(1, 1, 1, 4, 1, 512));
        yes("more gates", m.sizes(1, 1, 1, 4, 8, 512));
        due("gate 1", m.cached(1, 0), NONE);
    }

    private static void sizesEndTheLaunch() {
        promise(2, "there is no LAUNCH any more");
        for (Mill m : new Mill[] {over(), trapped()}) {
            yes("sizes", m.sizes(4, 4, 2, 4, 2, 512));
            due("state(0)", m.state(0), 0);
            due("run", m.run(5), 0);
            no("stop", m.stop());
            due("slot 0 is free", m.slot(0, 0, 0), NONE);
            due("slot 0 is free", m.lane(0, 0, 0, PLACE), NO_SUCH);
            due("no shared memory", m.shared(0, 0), NO_SUCH);
            yes("another launch", m.launch(1, 1));
        }
        // The slots that a trap left are free for the next launch, in whatever sizes.
        Mill full = launched(mill(NO_WORD), 2, 16);
        due("a trap", full.run(5), 3);
        yes("sizes", full.sizes(4, 2, 3, 4, 2, 512));
        launched(full, 3, 8).run(1);
        due("block 0", full.slot(0, 1, 0), 0);
        due("block 1", full.slot(1, 1, 0), 1);
        due("block 2", full.slot(2, 1, 0), 2);
    }

    private static void sizesCountAnew() {
        promise(2, "what was counted is 0 but for CYCLES in all");
        Mill m = over();
        m.states("counted", 1, 13, 2, 2, 0, 1, 1, 13);
        yes("sizes", m.sizes(4, 4, 2, 4, 2, 512));
        m.states("behind sizes", 0, 0, 0, 0, 0, 0, 0, 0, 13, 0, 0, 0, 0, 0);
        due("words of unit 0", m.unit(0, 3), 0);
        Mill trap = launched(mill(about(1, 0), w(7, 2, 1, 1, 0)), 1, 4);
        due("a trap", trap.run(5), 3);
        yes("sizes", trap.sizes(4, 4, 2, 4, 2, 512));
        trap.states("behind a trap", 0, 0, 0, 0, 0, 0, 0, 0, 2, 0, 0, 0, 0, 0);
        Mill partly = launched(mill(on(0, put(1, 1)), load(1, 0, 8), load(1, 0, 8), END), 1, 1);
        partly.run(500);
        partly.states("hits", 4, 1, 1);
        due("words not all did", partly.state(12), 1);
        yes("sizes", partly.sizes(4, 4, 2, 4, 2, 512));
        partly.states("hits", 4, 0, 0);
        due("words not all did", partly.state(12), 0);
    }

    private static void sizesClearTicks() {
        promise(2, "ticks are 0");
        Mill m = launched(mill(put(1, 3), w(7, 2, 1, 1, 0), w(58, 3, 0, 1, 0), load(4, 0, 8), END), 1, 1);
        m.run(500);
        due("divider tick", m.unit(0, 0), 9);
        due("shared tick", m.unit(0, 1), 3);
        due("gate's tick", m.cached(1, GATE_TICK), 10);
        yes("sizes", m.sizes(4, 4, 2, 4, 2, 512));
        for (int unit = 0; unit < 2; unit++) {
            due("divider tick of unit " + unit, m.unit(unit, 0), 0);
            due("shared tick of unit " + unit, m.unit(unit, 1), 0);
            due("tick of gate " + unit, m.cached(unit, GATE_TICK), 0);
        }
        due("a slot's ticks", m.slot(0, 0, MEMORY_TICK), 0);
    }

    private static void sizesKeepTheKernel() {
        promise(2, "KERNEL and GLOBAL MEMORY stay");
        Mill m = mill(jump(127));
        m.word(127, put(1, 6));
        m.set(0, 3);
        m.set(511, 4);
        yes("sizes", m.sizes(1, 1, 1, 1, 1, 512));
        due("int 0", m.global(0), 3);
        due("int 511", m.global(511), 4);
        launched(m, 1, 1).run(2);
        m.lanes("word 0 and word 127", 0, 0, 1, 6);
    }

    private static void sizesKeepTheInts() {
        promise(2, "as many INTS as there are then");
        Mill m = new Mill();
        int[] sizes = {4096, 2048, 1024, 512};
        m.sizes(4, 4, 2, 4, 2, 4096);
        for (int ints : sizes) {
            m.set(ints - 1, ints);
        }
        for (int ints : sizes) {
            yes("sizes", m.sizes(4, 4, 2, 4, 2, ints));
            due("the last one of " + ints, m.global(ints - 1), ints);
            due("behind the last one of " + ints, m.global(ints), NO_SUCH);
            no("set behind the last one of " + ints, m.set(ints, 1));
        }
    }

    private static void sizesBringZeros() {
        promise(2, "those that come are 0");
        Mill m = new Mill();
        m.sizes(4, 4, 2, 4, 2, 4096);
        for (int k : new int[] {511, 512, 1023, 1024, 2047, 2048, 4095}) {
            m.set(k, k);
        }
        m.sizes(4, 4, 2, 4, 2, 1024);
        due("int 1023 stays", m.global(1023), 1023);
        m.sizes(4, 4, 2, 4, 2, 512);
        m.sizes(4, 4, 2, 4, 2, 2048);
        due("int 511 stays", m.global(511), 511);
        for (int k : new int[] {512, 513, 1023, 1024, 2047}) {
            due("int " + k, m.global(k), 0);
        }
        m.sizes(4, 4, 2, 4, 2, 4096);
        for (int k : new int[] {512, 1023, 1024, 2047, 2048, 3000, 4095}) {
            due("int " + k, m.global(k), 0);
        }
        due("int 511 stays", m.global(511), 511);
    }

    private static void sizesAreAllOthers() {
        promise(2, "Other SIZES");
        // From the least to the greatest and back, with a launch in each.
        int[][] all = {{1, 1, 1, 1, 1, 512}, {32, 16, 8, 32, 8, 4096}, {2, 5, 3, 2, 2, 1024},
            {16, 2, 8, 16, 4, 2048}, {1, 16, 1, 1, 1, 512}};
        Mill m = mill(about(1, 0), load(2, 0, 511), w(58, 3, 0, 1, 63), jump(3));
        m.set(511, 44);
        for (int[] s : all) {
            yes("sizes", m.sizes(s[0], s[1], s[2], s[3], s[4], s[5]));
            int threads = s[0] * s[1];
            launched(m, s[2], threads).run(500);
            // 16 warps of 32 lanes at one int take 32 cycles each.
            m.run(100);
            String what = threads + " threads in each of " + s[2] + " units";
            int u = s[2] - 1;
            due(what + ": the last one", m.lane(u, s[1] - 1, s[0] - 1, 1), threads - 1);
            due(what + ": what it read", m.lane(u, s[1] - 1, s[0] - 1, 2), 44);
            due(what + ": their sum", m.shared(u, 63), threads * (threads - 1) / 2);
            due(what + ": no unit more", m.unit(s[2], 3), NONE);
            due(what + ": no slot more", m.slot(u, s[1], 2), NONE);
            due(what + ": no lane more", m.lane(u, 0, s[0], 1), NO_SUCH);
            m.stop();
        }
    }

    private static void sizesRefuseOthers() {
        promise(2, "false, changing nothing, for others than told");
        int[] fine = {8, 3, 1, 8, 4, 1024};
        int[] bad = {3, 0, 9, 64, 16, 100};
        for (int k = 0; k < 6; k++) {
            Mill m = trapped();
            m.run(1);
            int[] s = fine.clone();
            s[k] = bad[k];
            no("a wrong size " + k, m.sizes(s[0], s[1], s[2], s[3], s[4], s[5]));
            m.states("sizes", 13, 4, 4, 2, 4, 2, 512);
            m.states("the launch", 0, 3, 1);
            due("the trap", m.state(8), 2);
            due("its slot", m.slot(0, 0, 0), 0);
        }
        Mill cached = over();
        no("all are wrong", cached.sizes(0, 0, 0, 0, 0, 0));
        due("the line stays", cached.cached(1, 0), 1);
        due("the gate's tick stays", cached.cached(1, GATE_TICK), 5);
        due("over", cached.state(0), 2);
    }

    private static void sizesRefuseUnderWay() {
        promise(2, "or if a LAUNCH is under way");
        Mill m = launched(mill(put(1, 1), jump(1)), 1, 1);
        no("ahead of its first cycle", m.sizes(8, 4, 2, 4, 2, 512));
        m.run(3);
        no("in its midst", m.sizes(8, 4, 2, 4, 2, 512));
        no("the same sizes, too", m.sizes(4, 4, 2, 4, 2, 512));
        m.states("nothing has changed", 13, 4, 4, 2, 4, 2, 512);
        m.states("nothing has changed", 0, 1, 3, 3);
        m.lanes("nothing has changed", 0, 0, 1, 1);
        Mill pending = trapWithPending();
        no("behind a trap, with something pending", pending.sizes(8, 4, 2, 4, 2, 512));
        due("it is pending yet", pending.state(19), 1);
        due("over", pending.run(500), 3);
        yes("over", pending.sizes(8, 4, 2, 4, 2, 512));
        m.stop();
        yes("given up", m.sizes(8, 4, 2, 4, 2, 512));
    }

    private static void wordRefusesOthers() {
        promise(3, "WORD k of the KERNEL: true; false, changing nothing, if there is none such");
        Mill m = mill(jump(127));
        m.word(127, jump(127));
        for (int k : new int[] {-1, 128, 129, 256, -128, MIN, MAX}) {
            no("word(" + k + ")", m.word(k, NO_WORD));
        }
        due("words 0 and 127 are as they were", launched(m, 1, 1).run(50), 1);
        m.stop();
        yes("word(0)", m.word(0, jump(126)));
        yes("word(126)", m.word(126, put(1, 5)));
        yes("word(127)", m.word(127, END));
        due("all are others", launched(m, 1, 1).run(50), 2);
        due("three words", m.state(2), 3);
    }

    private static void wordRefusesUnderWay() {
        promise(3, "or a LAUNCH is under way");
        Mill m = launched(endless(), 1, 1);
        no("ahead of its first cycle", m.word(0, END));
        due("it is as it was", m.run(9), 1);
        no("in its midst", m.word(0, END));
        due("it is as it was", m.run(9), 1);
        yes("stop", m.stop());
        yes("given up", m.word(0, END));
        due("another one", launched(m, 1, 1).run(9), 2);
        yes("over", m.word(0, NO_WORD));
        due("another one", launched(m, 1, 1).run(9), 3);
        yes("over by a trap", m.word(0, END));
        due("another one", launched(m, 1, 1).run(9), 2);
        Mill pending = trapWithPending();
        no("behind a trap, with something pending", pending.word(0, END));
        pending.run(500);
        yes("nothing pending", pending.word(0, END));
    }

    private static void setRefusesOthers() {
        promise(4, "Int k of GLOBAL MEMORY, likewise");
        for (int ints : new int[] {512, 1024, 2048, 4096}) {
            Mill m = new Mill();
            m.sizes(4, 4, 2, 4, 2, ints);
            for (int k : new int[] {-1, ints, ints + 1, 2 * ints, -ints, MIN, MAX}) {
                no("set(" + k + ") of " + ints, m.set(k, 9));
            }
            due("the first one", m.global(0), 0);
            due("the last one", m.global(ints - 1), 0);
            yes("set(0)", m.set(0, MIN));
            yes("set(" + (ints - 1) + ")", m.set(ints - 1, MAX));
            due("the first one", m.global(0), MIN);
            due("the last one", m.global(ints - 1), MAX);
        }
    }

    private static void setRefusesUnderWay() {
        promise(4, "likewise");
        Mill m = endless();
        m.set(3, 7);
        launched(m, 1, 1);
        no("ahead of its first cycle", m.set(3, 8));
        m.run(5);
        no("in its midst", m.set(3, 8));
        due("it is as it was", m.global(3), 7);
        m.stop();
        yes("given up", m.set(3, 8));
        due("changed", m.global(3), 8);
        Mill pending = trapWithPending();
        no("behind a trap, with something pending", pending.set(3, 8));
        due("it is as it was", pending.global(3), 0);
        pending.run(500);
        yes("over by a trap", pending.set(3, 8));
        yes("over", over().set(3, 8));
    }

    private static void launchBegins() {
        promise(5, "A LAUNCH begins (cycle 0");
        Mill m = over();
        launched(m, 1, 1);
        m.states("as it begins", 0, 1, 0, 0, 0, 0, 0, 0, 13, 0, 0, 0, 0, 0);
        due("words of unit 0", m.unit(0, 3), 0);
        m.run(1);
        due("its first word's tick is that of cycle 0", m.slot(0, 0, MEMORY_TICK), 4);
        Mill trap = launched(trapped(), 1, 1);
        trap.states("behind a trap", 8, 0, 0, 0, 0);
        due("the slots are free till the first cycle", trap.slot(0, 0, 0), NONE);
        due("the slots are free till the first cycle", trap.shared(0, 0), NO_SUCH);
    }

    private static void launchKeepsTheCache() {
        promise(5, "what the CACHE has stays");
        Mill m = launched(over(), 1, 1);
        due("line 1 is there", m.cached(1, 0), 1);
        m.run(500);
        m.states("a hit", 4, 1, 0);
        Mill stopped = launched(mill(load(1, 0, 8), jump(1)), 1, 1);
        stopped.run(1);
        stopped.stop();
        due("behind stop, too", stopped.cached(1, 0), 1);
        launched(stopped, 1, 1).run(1);
        stopped.states("a hit, though it never was done", 4, 1, 0);
    }

    private static void launchRefusesUnderWay() {
        promise(5, "false if one is under way");
        Mill m = launched(endless(), 2, 3);
        no("ahead of its first cycle", m.launch(1, 1));
        m.run(5);
        no("in its midst", m.launch(1, 1));
        due("it goes on", m.state(1), 5);
        due("it has two blocks", m.slot(0, 1, 0), 1);
        Mill pending = trapWithPending();
        no("behind a trap, with something pending", pending.launch(1, 1));
        pending.states("the trap stays", 8, 2, 0, 0, 1);
        pending.run(500);
        yes("over by a trap", pending.launch(1, 1));
        yes("over", over().launch(1, 1));
        m.stop();
        yes("given up", m.launch(1, 1));
        yes("behind sizes", sized(1, 1, 1).launch(1, 1));
    }

    private static void launchRefusesWhatIsNone() {
        promise(5, "or it is none");
        int[][] bad = {{0, 1}, {65, 1}, {-1, 1}, {1, 0}, {1, 17}, {1, -1}, {0, 0}, {65, 17}, {MIN, 1}, {MAX, 1},
            {1, MIN}, {1, MAX}};
        Mill m = over();
        for (int[] b : bad) {
            no("launch(" + b[0] + ", " + b[1] + ")", m.launch(b[0], b[1]));
        }
        m.states("the one before is as it was", 0, 2, 13, 2, 2, 0, 1, 1, 13);
        due("its gate's tick, too", m.cached(1, GATE_TICK), 5);
        due("and the slot that went last", m.unit(0, 2), 0);
        Mill trap = trapped();
        no("launch(0, 1)", trap.launch(0, 1));
        due("the slots stay", trap.slot(0, 0, 0), 0);
        yes("the most", m.launch(64, 16));
    }

    private static void runRefusesOtherNumbers() {
        promise(6, "IllegalArgumentException: another n");
        Mill m = endless();
        for (int n : new int[] {0, -1, 501, 1000, -500, MIN, MAX}) {
            due("run(" + n + ") without a launch", m.run(n), WRONG_ARGUMENT);
        }
        launched(m, 1, 1);
        for (int n : new int[] {0, -1, 501, 1000, -500, MIN, MAX}) {
            due("run(" + n + ") with one", m.run(n), WRONG_ARGUMENT);
        }
        due("no cycle was done", m.state(7), 0);
        due("run(1)", m.run(1), 1);
        due("run(500)", m.run(500), 1);
        due("over: run(0)", over().run(0), WRONG_ARGUMENT);
        due("over: run(501)", over().run(501), WRONG_ARGUMENT);
    }

    private static void runAtMostSoMany() {
        promise(6, "At most n (1 .. 500) CYCLES");
        Mill m = launched(endless(), 1, 1);
        int sum = 0;
        for (int n : new int[] {1, 2, 499, 500}) {
            m.run(n);
            sum += n;
            due("cycles", m.state(1), sum);
            due("cycles in all", m.state(7), sum);
        }
        Mill few = launched(mill(put(1, 1), END), 1, 1);
        due("the second cycle is the last one", few.run(2), 2);
        due("two cycles", few.state(1), 2);
        Mill one = launched(mill(put(1, 1), END), 1, 1);
        due("one is too few", one.run(1), 1);
        due("one more", one.run(1), 2);
    }

    private static void runTellsHowItStands() {
        promise(6, "0 no LAUNCH yet, 1 it is under way, 2 it is over, all BLOCKS have ended, 3 it is over by a TRAP");
        Mill m = mill(END);
        due("no launch", m.run(1), 0);
        due("no launch", m.state(0), 0);
        launched(m, 1, 8);
        due("launched", m.state(0), 1);
        due("one warp of two has ended", m.run(1), 1);
        due("both have", m.run(1), 2);
        due("and so state(0)", m.state(0), 2);
        due("a trap", trapped().state(0), 3);
        promise(6, "4 there was a TRAP, and something is PENDING (it is under way yet)");
        Mill pending = trapWithPending();
        due("state(0)", pending.state(0), 4);
        due("run(1)", pending.run(1), 4);
        due("behind cycle 11", pending.run(9), 4);
        due("behind cycle 12", pending.run(1), 3);
        due("state(0)", pending.state(0), 3);
    }

    /** An endless launch that has had all cycles but so many. */
    private static Mill nearTheEnd(int left) {
        Mill m = launched(endless(), 1, 1);
        for (int k = 0; k < 39; k++) {
            m.run(500);
        }
        due("under way", m.run(500 - left), 1);
        due("cycles in all", m.state(7), 20000 - left);
        return m;
    }

    private static void runWhenCyclesAreFull() {
        promise(6, "IllegalStateException (asked behind that): 20000 CYCLES had been in all ahead of the call");
        Mill m = nearTheEnd(1);
        due("the last one", m.run(1), 1);
        due("cycles in all", m.state(7), 20000);
        due("one more", m.run(1), WRONG_STATE);
        due("500 more", m.run(500), WRONG_STATE);
        due("none was done", m.state(7), 20000);
        due("it is under way yet", m.state(0), 1);
        promise(6, "whether there is a LAUNCH or not");
        yes("stop", m.stop());
        due("given up", m.run(1), WRONG_STATE);
        yes("another launch", m.launch(1, 1));
        due("another launch", m.run(1), WRONG_STATE);
        m.stop();
        yes("sizes", m.sizes(4, 4, 2, 4, 2, 512));
        due("behind sizes", m.run(1), WRONG_STATE);
        // Over with the very last cycle.
        Mill over = nearTheEnd(1);
        over.stop();
        over.word(0, END);
        due("over", launched(over, 1, 1).run(1), 2);
        due("over", over.run(1), WRONG_STATE);
        due("over yet", over.state(0), 2);
    }

    private static void runAsksForNFirst() {
        promise(6, "(asked behind that)");
        Mill m = nearTheEnd(0);
        due("run(0)", m.run(0), WRONG_ARGUMENT);
        due("run(501)", m.run(501), WRONG_ARGUMENT);
        due("run(-1)", m.run(-1), WRONG_ARGUMENT);
        due("run(500)", m.run(500), WRONG_STATE);
    }

    private static void runEndsInItsMidst() {
        promise(6, "(a call in whose midst they are full ends there, and tells how it stands)");
        Mill m = nearTheEnd(3);
        due("under way", m.run(500), 1);
        due("cycles in all", m.state(7), 20000);
        due("cycles", m.state(1), 20000);
        // The trap comes in cycle 1 of three, and something is pending till cycle 12.
        Mill pending = nearTheEnd(3);
        pending.stop();
        kernel(pending, store(0, 0, 8), NO_WORD);
        due("a trap, and something is pending", launched(pending, 1, 1).run(500), 4);
        due("three cycles", pending.state(1), 3);
        due("no more", pending.run(500), WRONG_STATE);
        due("pending for ever", pending.state(19), 1);
        yes("but for stop", pending.stop());
        due("nothing is pending", pending.state(19), 0);
    }

    private static void runDoesNoneBehindTheEnd() {
        promise(6, "(Behind the end, or without a LAUNCH, none is done.)");
        Mill none = new Mill();
        due("without a launch", none.run(500), 0);
        none.states("none is done", 7, 0);
        Mill over = over();
        due("over", over.run(500), 2);
        due("cycles", over.state(1), 13);
        due("cycles in all", over.state(7), 13);
        Mill trap = trapped();
        due("over by a trap", trap.run(500), 3);
        due("cycles", trap.state(1), 1);
        due("cycles in all", trap.state(7), 1);
        Mill stopped = launched(endless(), 1, 1);
        stopped.run(4);
        stopped.stop();
        due("given up", stopped.run(500), 0);
        due("cycles", stopped.state(1), 4);
        due("cycles in all", stopped.state(7), 4);
    }

    private static void stopGivesUp() {
        promise(7, "there is none then: run() and state(0) tell 0");
        Mill m = launched(endless(), 1, 1);
        yes("ahead of its first cycle", m.stop());
        due("state(0)", m.state(0), 0);
        due("run", m.run(5), 0);
        launched(m, 1, 1).run(5);
        yes("in its midst", m.stop());
        due("state(0)", m.state(0), 0);
        due("run", m.run(5), 0);
        Mill pending = trapWithPending();
        yes("behind a trap, with something pending", pending.stop());
        due("state(0)", pending.state(0), 0);
        due("run", pending.run(5), 0);
    }

    private static void stopFreesSlots() {
        promise(7, "all SLOTS are free");
        Mill m = launched(endless(), 9, 4);
        m.run(3);
        yes("stop", m.stop());
        for (int unit = 0; unit < 2; unit++) {
            for (int slot = 0; slot < 4; slot++) {
                due("block", m.slot(unit, slot, 0), NONE);
                due("warp", m.slot(unit, slot, 1), NONE);
                due("ended", m.slot(unit, slot, 2), 0);
                due("place", m.lane(unit, slot, 0, PLACE), NO_SUCH);
            }
        }
        due("no shared memory", m.shared(0, 0), NO_SUCH);
        launched(m, 9, 4).run(1);
        due("all have room for the next one", m.slot(1, 3, 0), 7);
        // Those that waited at a barrier don't count at the next launch's.
        Mill waits = launched(mill(about(1, 5), equal(0, 1, 1), off(0, WAIT), jump(3)), 1, 8);
        waits.run(20);
        due("warp 0 waits", waits.slot(0, 0, 3), 4);
        waits.stop();
        kernel(waits, WAIT, jump(1));
        launched(waits, 1, 8).run(1);
        due("warp 0 waits anew", waits.slot(0, 0, 3), 4);
        due("warp 1 has not come yet", waits.slot(0, 1, 3), 0);
        waits.run(1);
        due("both have come", waits.slot(0, 0, 3), 0);
        due("both have come", waits.slot(0, 1, 3), 0);
        Mill trap = trapWithPending();
        due("it is in its slot", trap.slot(0, 0, 0), 0);
        trap.stop();
        due("behind a trap, too", trap.slot(0, 0, 0), NONE);
    }

    private static void stopForgetsPending() {
        promise(7, "what is PENDING is never done, state(19) tells 0");
        Mill m = launched(mill(put(1, 9), store(0, 1, 8), jump(2)), 1, 4);
        m.run(13);
        due("four are pending", m.state(19), 4);
        yes("stop", m.stop());
        due("none is pending", m.state(19), 0);
        due("it is not done", m.global(8), 0);
        kernel(m, jump(0));
        launched(m, 1, 4).run(100);
        due("nor in the next one", m.global(8), 0);
        due("none is pending", m.state(19), 0);
        // Nor does it come with what the next one has asked for at the same time.
        m.stop();
        kernel(m, put(1, 7), store(0, 1, 16), jump(2));
        launched(m, 1, 4).run(13);
        due("four are pending", m.state(19), 4);
        m.stop();
        kernel(m, put(1, 6), store(0, 1, 48), jump(2));
        launched(m, 1, 4).run(13);
        due("four are pending", m.state(19), 4);
        m.run(1);
        due("they are done", m.state(19), 0);
        due("it is done", m.global(48), 6);
        due("the other one is not", m.global(16), 0);
        due("nor the first one", m.global(8), 0);
        for (int waits = 0; waits <= 64; waits++) {
            neverDone(waits);
        }
    }

    /** What would be done in cycle 13 + waits is given up; the next launch has asked for something else by then. */
    private static void neverDone(int waits) {
        Mill m = mill(put(1, 9));
        for (int k = 1; k <= waits; k++) {
            m.word(k, put(2, 0));
        }
        kernelAt(m, waits + 1, store(0, 1, 8), jump(waits + 2));
        launched(m, 1, 1).run(waits + 3);
        due("one is pending", m.state(19), 1);
        yes("stop", m.stop());
        m.word(waits + 1, store(0, 1, 48));
        launched(m, 1, 1).upTo(waits + 13);
        due("one is pending", m.state(19), 1);
        m.run(1);
        due("the next one's is done in cycle " + (13 + waits), m.global(48), 9);
        due("the first one's is never done", m.global(8), 0);
        due("none is pending", m.state(19), 0);
    }

    private static void stopKeepsAllElse() {
        promise(7, "all else that state() tells stays");
        // Block 0 ends in cycle 17, block 1 in the same slot asks for the line in cycle 19.
        Mill m = launched(sized(4, 1, 1, on(0, put(1, 1)), load(1, 0, 8), load(2, 0, 8), END), 2, 4);
        m.upTo(20);
        m.states("ahead of stop", 1, 20, 6, 16, 2, 1, 1, 20);
        m.states("ahead of stop", 12, 2);
        m.states("ahead of stop", 19, 4);
        staysBehindStop(m);
        staysBehindStop(trapWithPending());
    }

    private static void staysBehindStop(Mill m) {
        int[] was = new int[20];
        for (int what = 0; what < 20; what++) {
            was[what] = m.state(what);
        }
        yes("stop", m.stop());
        was[0] = 0;
        was[19] = 0;
        m.states("behind stop", 0, was);
    }

    private static void stopRefusesWithoutALaunch() {
        promise(7, "false if none is under way");
        Mill m = endless();
        no("none yet", m.stop());
        launched(m, 1, 1);
        yes("one", m.stop());
        no("none any more", m.stop());
        Mill over = over();
        no("over", over.stop());
        due("it is over yet", over.state(0), 2);
        Mill trap = trapped();
        no("over by a trap", trap.stop());
        due("it is over yet", trap.state(0), 3);
        due("its slot stays", trap.slot(0, 0, 0), 0);
        Mill pending = trapWithPending();
        pending.run(500);
        no("over by a trap, nothing pending any more", pending.stop());
    }

    private static void globalRefusesOthers() {
        promise(8, "NoSuchElementException: there is none such");
        for (int ints : new int[] {512, 1024, 2048, 4096}) {
            Mill m = new Mill();
            m.sizes(4, 4, 2, 4, 2, ints);
            for (int k : new int[] {-1, ints, ints + 1, -ints, MIN, MAX}) {
                due("global(" + k + ") of " + ints, m.global(k), NO_SUCH);
            }
            due("global(0)", m.global(0), 0);
            due("global(" + (ints - 1) + ")", m.global(ints - 1), 0);
        }
        Mill m = launched(endless(), 1, 1);
        m.run(2);
        due("under way, too", m.global(511), 0);
        due("under way, too", m.global(512), NO_SUCH);
    }

    private static void stateRefusesOthers() {
        promise(9, "NONE for another what");
        for (Mill m : new Mill[] {new Mill(), over(), trapWithPending()}) {
            for (int what : new int[] {-1, 20, 21, 100, MIN, MAX}) {
                due("state(" + what + ")", m.state(what), NONE);
            }
            due("state(0) is one", m.state(0) >= 0 ? 1 : 0, 1);
            due("state(19) is one", m.state(19) >= 0 ? 1 : 0, 1);
        }
    }

    private static void stateOfTheLatestLaunch() {
        promise(9, "of the latest LAUNCH 1: CYCLES");
        Mill m = over();
        due("cycles", m.state(1), 13);
        launched(m, 1, 1);
        due("of the next one", m.state(1), 0);
        due("in all", m.state(7), 13);
        m.run(500);
        due("of the next one", m.state(1), 5);
        due("in all", m.state(7), 18);
        due("blocks that have ended", m.state(6), 1);
        launched(m, 1, 1);
        due("of the one behind that", m.state(6), 0);
        m.states("of the one behind that", 2, 0, 0, 0, 0);
    }

    private static void stateCountsLines() {
        promise(9, "4: HITS, 5: LINES that were no HITS");
        // Four lanes at one line are one line; two lines of one word are two.
        Mill m = launched(mill(load(1, 0, 8), load(1, 0, 8), about(2, 4), times(2, 2, 4), load(1, 2, 8), jump(5)), 1, 4);
        m.upTo(1);
        m.states("one line", 4, 0, 1);
        m.upTo(13);
        m.states("a hit", 4, 1, 1);
        m.run(50);
        m.states("line 1 once more, and line 2", 4, 2, 2);
    }

    private static void stateCountsBlocks() {
        promise(9, "6: BLOCKS that have ended, 7: CYCLES in all");
        Mill m = launched(sized(1, 1, 2, END), 64, 1);
        due("none yet", m.state(6), 0);
        for (int cycle = 1; cycle <= 32; cycle++) {
            m.run(1);
            due("behind " + cycle + " cycles", m.state(6), 2 * cycle);
            due("behind " + cycle + " cycles", m.state(7), cycle);
        }
        due("over", m.state(0), 2);
    }

    private static void stateTellsSizes() {
        promise(9, "13 .. 18: SIZES as above");
        Mill m = new Mill();
        m.sizes(1, 16, 8, 32, 4, 2048);
        m.states("lanes, slots, units, banks, gates, ints", 13, 1, 16, 8, 32, 4, 2048);
        launched(kernel(m, jump(0)), 1, 1).run(3);
        m.states("under way", 13, 1, 16, 8, 32, 4, 2048);
    }

    private static void stateCountsWords() {
        promise(9, "2: WORDS that went (once for a GROUP, not with a TRAP), 3: WORDS that THREADS DID");
        Mill m = launched(mill(about(1, 4), less(0, 1, 3), on(0, put(2, 1)), off(0, END), on(0, NO_WORD)), 1, 4);
        due("a trap", m.run(50), 3);
        m.states("four words", 1, 5, 4, 4 + 4 + 3 + 1);
        due("in unit 0", m.unit(0, 3), 4);
        Mill none = launched(mill(on(0, put(1, 1)), jump(1)), 1, 4);
        none.run(1);
        none.states("a word that no thread did went all the same", 2, 1, 0);
    }

    private static void stateWithoutATrap() {
        promise(9, "(8 to 11 are 0 without one)");
        new Mill().states("no launch", 8, 0, 0, 0, 0);
        over().states("over", 8, 0, 0, 0, 0);
        Mill m = launched(endless(), 1, 1);
        m.run(3);
        m.states("under way", 8, 0, 0, 0, 0);
        Mill next = trapped();
        next.word(0, jump(0));
        launched(next, 1, 1).run(3);
        next.states("the one behind a trap", 8, 0, 0, 0, 0);
        Mill far = thread5OfBlock3();
        launched(far, 1, 1);
        far.states("as the one behind a trap begins", 8, 0, 0, 0, 0);
        far.stop();
        far.states("and is given up", 8, 0, 0, 0, 0);
        Mill sized = thread5OfBlock3();
        yes("sizes", sized.sizes(4, 4, 2, 4, 2, 512));
        sized.states("behind sizes", 8, 0, 0, 0, 0);
    }

    /** Thread 5 of block 3 (lane 1 of warp 1) alone goes to place 9, where no word is. */
    private static Mill thread5OfBlock3() {
        Mill m = mill(about(1, 0), about(2, 1), equal(0, 1, 5), equal(1, 2, 3), w(34, 2, 0, 1, 0), on(2, jump(9)), END);
        m.word(9, NO_WORD);
        launched(m, 4, 6);
        due("a trap", m.run(200), 3);
        m.states("told", 8, 2, 3, 5, 9);
        return m;
    }

    private static void stateOfATrap() {
        promise(9, "8: why (of a TRAP; else 0), 9: its BLOCK, 10: its THREAD's number in that, 11: its PLACE");
        Mill m = thread5OfBlock3();
        due("it is told yet", m.run(5), 3);
        m.states("it is told yet", 8, 2, 3, 5, 9);
        Mill last = sized(32, 16, 1, about(1, 0), equal(0, 1, 511), on(0, jump(127)), END);
        last.word(127, NO_WORD);
        launched(last, 1, 512);
        due("a trap", last.run(500), 3);
        last.states("the last thread at the last place", 8, 2, 0, 511, 127);
    }

    private static void statePartly() {
        promise(9, "12: WORDS that went of which not all of the GROUP DID it");
        Mill m = launched(mill(about(1, 4), less(0, 1, 3), on(0, put(2, 1)), on(1, put(2, 2)), off(1, put(2, 3)), jump(5)), 1, 4);
        int[] counts = {0, 0, 1, 2, 2, 2};
        for (int count : counts) {
            m.run(1);
            due("behind " + m.state(1) + " words", m.state(12), count);
        }
    }

    private static void statePending() {
        promise(9, "19: how many LANES' are PENDING");
        Mill m = launched(mill(about(1, 4), less(0, 1, 3), on(0, store(0, 1, 8)), jump(3)), 1, 4);
        int[][] counts = {{2, 0}, {3, 3}, {14, 3}, {15, 0}};
        for (int[] c : counts) {
            m.upTo(c[0]);
            due("behind " + c[0] + " cycles", m.state(19), c[1]);
        }
        // All that there can be: 8 units of 16 warps of 32 lanes; none is done yet, as one gate takes its time.
        Mill most = new Mill();
        most.sizes(32, 16, 8, 32, 1, 4096);
        kernel(most, about(1, 0), times(1, 1, 8), store(1, 1, 0), jump(3));
        launched(most, 8, 512).run(70);
        due("all lanes' but those that are done", most.state(19) > 4000 ? 1 : 0, 1);
    }

    private static void unitRefusesOthers() {
        promise(10, "NONE if there is none such, or for another what");
        for (int units : new int[] {1, 2, 8}) {
            Mill m = sized(1, 1, units);
            for (int unit : new int[] {-1, units, units + 1, 8, MIN, MAX}) {
                for (int what = 0; what < 4; what++) {
                    due("unit(" + unit + ", " + what + ") of " + units, m.unit(unit, what), NONE);
                }
            }
            for (int what : new int[] {-1, 4, 5, MIN, MAX}) {
                due("unit(0, " + what + ")", m.unit(0, what), NONE);
                due("unit(" + (units - 1) + ", " + what + ")", m.unit(units - 1, what), NONE);
            }
            due("the last unit", m.unit(units - 1, 3), 0);
        }
    }

    private static void unitTellsTicks() {
        promise(10, "Of a UNIT, what 0: its DIVIDER tick, 1: its SHARED tick");
        // Block 1 divides in cycle 3 and asks for shared memory in cycle 4; block 0 does neither.
        Mill m = sized(1, 1, 2, about(1, 1), equal(0, 1, 1), off(0, jump(9)), w(7, 2, 1, 1, 0), w(59, 3, 0, 1, 0), jump(5));
        m.word(9, jump(9));
        launched(m, 2, 1).upTo(6);
        due("divider of unit 0", m.unit(0, 0), 0);
        due("shared memory of unit 0", m.unit(0, 1), 0);
        due("divider of unit 1", m.unit(1, 0), 11);
        due("shared memory of unit 1", m.unit(1, 1), 5);
    }

    private static void unitTheLastSlot() {
        promise(10, "the last one as long as none has gone in the latest LAUNCH, also ahead of any and behind sizes()");
        for (int slots : new int[] {1, 4, 16}) {
            Mill m = sized(1, slots, 2, jump(0));
            due("behind sizes", m.unit(0, 2), slots - 1);
            launched(m, 1, 1);
            due("ahead of the first cycle", m.unit(0, 2), slots - 1);
            m.run(1);
            due("slot 0 has gone", m.unit(0, 2), 0);
            due("none of unit 1 has", m.unit(1, 2), slots - 1);
            m.stop();
            due("behind stop", m.unit(0, 2), 0);
            launched(m, 1, 1);
            due("of the next one none has", m.unit(0, 2), slots - 1);
            m.stop();
            yes("sizes", m.sizes(1, 5, 2, 4, 2, 512));
            due("behind sizes", m.unit(0, 2), 4);
        }
        due("ahead of any", new Mill().unit(1, 2), 3);
    }

    private static void unitCountsWords() {
        promise(10, "3: WORDS that went there in the latest LAUNCH");
        Mill m = launched(sized(1, 1, 3, jump(0)), 2, 1);
        m.run(7);
        due("unit 0", m.unit(0, 3), 7);
        due("unit 1", m.unit(1, 3), 7);
        due("unit 2 has no block", m.unit(2, 3), 0);
        m.stop();
        due("behind stop", m.unit(0, 3), 7);
        launched(m, 1, 1);
        due("of the next one", m.unit(0, 3), 0);
    }

    private static void cachedRefusesOthers() {
        promise(11, "NONE if there is none such");
        for (int gates : new int[] {1, 2, 4, 8}) {
            Mill m = new Mill();
            m.sizes(1, 1, 1, 1, gates, 512);
            for (int gate : new int[] {-1, gates, gates + 1, 8, MIN, MAX}) {
                due("cached(" + gate + ", 0) of " + gates, m.cached(gate, 0), NONE);
                due("cached(" + gate + ", 4) of " + gates, m.cached(gate, GATE_TICK), NONE);
            }
            for (int place : new int[] {-1, 5, 6, MIN, MAX}) {
                due("cached(0, " + place + ")", m.cached(0, place), NONE);
            }
            due("the last gate's tick", m.cached(gates - 1, GATE_TICK), 0);
        }
        promise(11, "Of a GATE's PLACE (0 .. 3) the LINE that is there (NONE without); place 4: the GATE's tick");
        // Line 6 is in gate 0, place 3; line 0 in place 0.
        Mill m = launched(mill(load(1, 0, 48), load(2, 0, 0), END), 1, 1);
        due("over", m.run(500), 2);
        int[] want = {0, NONE, NONE, 6, 17};
        for (int place = 0; place < want.length; place++) {
            due("cached(0, " + place + ")", m.cached(0, place), want[place]);
        }
        due("of place 5 there is none", m.cached(0, 5), NONE);
    }

    private static void slotRefusesOthers() {
        promise(12, "NONE if there is none such, or for another what");
        for (int size : new int[] {1, 3, 8}) {
            Mill m = launched(sized(1, size, size, jump(0)), 1, 1);
            m.run(1);
            for (int other : new int[] {-1, size, size + 1, 16, MIN, MAX}) {
                due("slot(" + other + ", 0, 2) of " + size, m.slot(other, 0, 2), NONE);
                due("slot(0, " + other + ", 2) of " + size, m.slot(0, other, 2), NONE);
            }
            for (int what : new int[] {-1, 25, 26, 100, MIN, MAX}) {
                due("slot(0, 0, " + what + ")", m.slot(0, 0, what), NONE);
                due("of a free one, too", m.slot(size - 1, size - 1, what), NONE);
            }
            due("what 24 is one", m.slot(0, 0, 24), 0);
        }
    }

    private static void slotThatIsFree() {
        promise(12, "of what 0 and 1 also if it is free (0 for others then)");
        Mill m = launched(sized(4, 2, 1, load(1, 0, 8), w(70, 3, 0, 0, 0), END), 1, 8);
        due("ahead of the first cycle", m.slot(0, 0, 0), NONE);
        m.run(500);
        for (int slot = 0; slot < 2; slot++) {
            for (int what = 0; what < 25; what++) {
                due("behind the end: slot(0, " + slot + ", " + what + ")", m.slot(0, slot, what), what < 2 ? NONE : 0);
            }
        }
    }

    private static void slotTellsItsWarp() {
        promise(12, "Of a SLOT, what 0: its BLOCK, 1: its WARP in that");
        Mill m = new Mill();
        m.sizes(1, 16, 8, 1, 1, 512);
        launched(kernel(m, jump(0)), 64, 2).run(1);
        for (int slot = 0; slot < 16; slot++) {
            due("block in slot " + slot + " of unit 7", m.slot(7, slot, 0), 56 + slot / 2);
            due("warp in slot " + slot + " of unit 7", m.slot(7, slot, 1), slot % 2);
        }
        m.stop();
        launched(m, 1, 16).run(1);
        due("the last warp of one block", m.slot(0, 15, 1), 15);
        due("the only block", m.slot(0, 15, 0), 0);
    }

    private static void slotTellsAll() {
        promise(12, "4: the MEMORY tick, 5 + r: register r's tick, 21 + p: PREDICATE p's tick");
        // Register r is written in cycle r, predicate p in cycle 16 + p; then 53 in cycle 20.
        Mill m = sized(1, 1, 1);
        for (int r = 0; r < 16; r++) {
            m.word(r, put(r, 0));
        }
        for (int p = 0; p < 4; p++) {
            m.word(16 + p, equal(p, 0, 0));
        }
        kernelAt(m, 20, w(53, 0, 0, 0, 0), jump(21));
        launched(m, 1, 1).upTo(21);
        for (int r = 0; r < 16; r++) {
            due("register " + r, m.slot(0, 0, REGISTER_TICK + r), r + 1);
        }
        for (int p = 0; p < 4; p++) {
            due("predicate " + p, m.slot(0, 0, PREDICATE_TICK + p), 17 + p);
        }
        due("memory", m.slot(0, 0, MEMORY_TICK), 23);
        promise(12, "2: how many of its THREADS have ended, 3: how many wait at the BARRIER");
        Mill counts = launched(sized(32, 1, 1, about(1, 4), less(0, 1, 31), off(0, END), on(0, WAIT), jump(4)), 1, 32);
        counts.upTo(3);
        due("lane 31 has ended", counts.slot(0, 0, 2), 1);
        due("none waits", counts.slot(0, 0, 3), 0);
        Mill ends = launched(sized(32, 1, 1, about(1, 4), less(0, 1, 31), on(0, END), jump(3)), 1, 32);
        ends.upTo(3);
        due("31 have ended", ends.slot(0, 0, 2), 31);
        Mill waits = launched(sized(32, 1, 1, about(1, 4), less(0, 1, 31), on(0, WAIT), jump(3)), 1, 32);
        waits.upTo(3);
        due("31 wait", waits.slot(0, 0, 3), 31);
        Mill first = launched(sized(32, 1, 1, about(1, 4), less(0, 1, 31), off(0, WAIT), jump(3)), 1, 32);
        first.upTo(3);
        due("lane 31 alone waits", first.slot(0, 0, 3), 1);
    }

    private static void laneRefusesOthers() {
        promise(13, "NoSuchElementException: there is none such");
        Mill most = launched(sized(32, 16, 8, jump(0)), 8, 512);
        most.run(1);
        due("the last of all", most.lane(7, 15, 31, 20), 0);
        due("lane 32", most.lane(7, 15, 32, 20), NO_SUCH);
        due("slot 16", most.lane(7, 16, 31, 20), NO_SUCH);
        due("unit 8", most.lane(8, 15, 31, 20), NO_SUCH);
        for (int size : new int[] {1, 4, 8}) {
            Mill m = launched(sized(size, size, size, jump(0)), size, size * size);
            m.run(1);
            int last = size - 1;
            for (int other : new int[] {-1, size, size + 1, 32, MIN, MAX}) {
                due("unit " + other + " of " + size, m.lane(other, 0, 0, 0), NO_SUCH);
                due("slot " + other + " of " + size, m.lane(0, other, 0, 0), NO_SUCH);
                due("lane " + other + " of " + size, m.lane(0, 0, other, 0), NO_SUCH);
            }
            for (int r : new int[] {-1, 21, 22, 100, MIN, MAX}) {
                due("register " + r, m.lane(0, 0, 0, r), NO_SUCH);
            }
            due("the last of all", m.lane(last, last, last, 20), 0);
            due("the first of all", m.lane(0, 0, 0, 0), 0);
        }
        promise(13, "Register r of a LANE of a SLOT's WARP (r 16: its PLACE, 17 .. 20: PREDICATE r - 17, 1 or 0)");
        for (int p = 0; p < 4; p++) {
            Mill m = launched(mill(equal(p, 0, 0), put(15, 3), jump(2)), 1, 1);
            m.run(2);
            m.lanes("register 15", 0, 0, 15, 3);
            m.lanes("the place", 0, 0, 16, 2);
            for (int r = 17; r <= 20; r++) {
                m.lanes("predicate " + p + " alone is true", 0, 0, r, r == 17 + p ? 1 : 0);
            }
        }
    }

    private static void laneOfAFreeSlot() {
        promise(13, "also of a free SLOT");
        Mill m = endless();
        due("no launch", m.lane(0, 0, 0, 0), NO_SUCH);
        launched(m, 1, 4);
        due("ahead of the first cycle", m.lane(0, 0, 0, 0), NO_SUCH);
        m.run(1);
        due("it has a warp now", m.lane(0, 0, 0, 0), 0);
        due("slot 1 has none", m.lane(0, 1, 0, 0), NO_SUCH);
        due("unit 1 has none", m.lane(1, 0, 0, 0), NO_SUCH);
        m.stop();
        due("given up", m.lane(0, 0, 0, 0), NO_SUCH);
        due("over", over().lane(0, 0, 0, 0), NO_SUCH);
        due("over by a trap, it stays", trapped().lane(0, 0, 0, PLACE), 0);
    }

    private static void laneWithoutAThread() {
        promise(13, "and of LANES in which its WARP has no THREAD");
        for (int threads : new int[] {1, 3, 4, 5, 7, 8}) {
            Mill m = launched(endless(), 1, threads);
            m.run(2);
            for (int k = 0; k < 8; k++) {
                due("thread " + k + " of " + threads, m.lane(0, k / 4, k % 4, PLACE), k < threads ? 0 : NO_SUCH);
            }
        }
        // One that has ended is there yet, as long as its block is.
        Mill ended = launched(mill(about(1, 4), equal(0, 1, 0), on(0, END), jump(3)), 1, 2);
        ended.run(5);
        ended.lanes("lane 0 has ended", 0, 0, PLACE, 3, 3, NO_SUCH);
        // A block of fewer threads in the slot where there were more.
        ended.stop();
        launched(ended, 1, 1).run(1);
        ended.lanes("one thread", 0, 0, PLACE, 1, NO_SUCH, NO_SUCH, NO_SUCH);
    }

    private static void sharedOfABlockInAUnit() {
        promise(14, "of a BLOCK that is in a UNIT");
        // One slot: block 0 ends in cycle 1, block 1 is there from cycle 2 on.
        Mill m = launched(sized(1, 1, 1, put(1, 1), END), 2, 1);
        due("ahead of the first cycle", m.shared(0, 0), NO_SUCH);
        m.run(1);
        due("block 0 is there", m.shared(0, 0), 0);
        due("block 1 is not there yet", m.shared(1, 0), NO_SUCH);
        m.run(1);
        due("block 0 has left", m.shared(0, 0), NO_SUCH);
        due("block 1 is not there yet", m.shared(1, 0), NO_SUCH);
        m.run(1);
        due("block 0 has left", m.shared(0, 0), NO_SUCH);
        due("block 1 is there", m.shared(1, 0), 0);
        m.stop();
        due("given up", m.shared(1, 0), NO_SUCH);
        due("behind a trap it stays", trapped().shared(0, 63), 0);
    }

    private static void sharedRefusesOthers() {
        promise(14, "NoSuchElementException: there is none such");
        Mill m = new Mill();
        due("no launch", m.shared(0, 0), NO_SUCH);
        m.sizes(1, 16, 8, 1, 1, 512);
        launched(kernel(m, jump(0)), 64, 1).run(1);
        for (int block : new int[] {-1, 64, 65, MIN, MAX}) {
            due("block " + block, m.shared(block, 0), NO_SUCH);
        }
        for (int k : new int[] {-1, 64, 65, MIN, MAX}) {
            due("int " + k, m.shared(0, k), NO_SUCH);
            due("int " + k + " of the last block", m.shared(63, k), NO_SUCH);
        }
        due("the first one of all", m.shared(0, 0), 0);
        due("the last one of all", m.shared(63, 63), 0);
    }
}
