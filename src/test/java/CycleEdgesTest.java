/** Boundary cases of the terms SIZES, KERNEL, LAUNCH, THREAD, WARP, BLOCK and CYCLE, a sentence each. */
public final class CycleEdgesTest extends Edges {
    private static final String STEP_0 = "Term CYCLE, step 0";
    private static final String STEP_1 = "Term CYCLE, step 1";
    private static final String STEP_2 = "Term CYCLE, step 2";
    private static final String STEP_3 = "Term CYCLE, step 3";

    public static void main(String[] args) {
        sizes();
        intsAtFirst();
        theLeastAndTheGreatestSizes();
        wordsOfTheKernel();
        blocksOfALaunch();
        threadsOfABlock();
        registersBegin(0);
        registersBegin(15);
        predicatesBegin();
        placesBegin();
        threadsOfAWarp();
        sharedMemoryBegins();

        doneInItsCycle();
        doneInOrder();
        theFirstUnitWithRoom();
        theLeastFreeSlots();
        untilOneFindsNoRoom();
        unitByUnit();
        slotZeroComesFirst();
        roundToItself();
        theFirstThatIsReady();
        lastAlsoWithATrap();
        noneIsReady();
        aBlockLeavesAtOnce();
        overWithTheLastBlock();
        overWithATrap();
        behindATrapNoStep1();
        behindATrapNoStep2();
        Check.end();
    }

    private static void sizes() {
        int[] powers = {1, 2, 4, 8, 16, 32};
        size("LANES of a WARP (1, 2, 4, 8, 16, 32)", 0, powers, 0, 3, 5, 12, 31, 33, 48, 64, -1, -32, MIN, MAX);
        size("SLOTS of a UNIT (1 .. 16)", 1, new int[] {1, 2, 3, 15, 16}, 0, 17, 32, -1, MIN, MAX);
        size("UNITS (1 .. 8)", 2, new int[] {1, 2, 3, 7, 8}, 0, 9, 16, -1, MIN, MAX);
        size("BANKS of SHARED MEMORY (1, 2, 4, 8, 16, 32)", 3, powers, 0, 3, 24, 31, 33, 64, -1, -2, MIN, MAX);
        size("GATES of the CACHE (1, 2, 4, 8)", 4, new int[] {1, 2, 4, 8}, 0, 3, 5, 6, 7, 9, 16, 32, -1, MIN, MAX);
        size("INTS of GLOBAL MEMORY (512, 1024, 2048, 4096", 5, new int[] {512, 1024, 2048, 4096},
            0, 1, 256, 511, 513, 1536, 3072, 4095, 4097, 8192, -512, MIN, MAX);
    }

    private static void size(String words, int which, int[] fine, int... bad) {
        sentence("Term SIZES", words);
        int[] all = {8, 7, 3, 16, 4, 1024};
        Mill m = new Mill();
        for (int v : fine) {
            all[which] = v;
            yes("size of " + v, m.sizes(all[0], all[1], all[2], all[3], all[4], all[5]));
            m.states("size of " + v, 13, all);
        }
        for (int v : bad) {
            int[] other = all.clone();
            other[which] = v;
            no("size of " + v, m.sizes(other[0], other[1], other[2], other[3], other[4], other[5]));
            m.states("refused size of " + v, 13, all);
        }
    }

    private static void intsAtFirst() {
        sentence("Term SIZES", "0 at first");
        Mill m = new Mill();
        for (int k = 0; k < 512; k += 7) {
            due("global(" + k + ")", m.global(k), 0);
        }
        due("the last one", m.global(511), 0);
    }

    private static void theLeastAndTheGreatestSizes() {
        sentence("Term SIZES", "LANES of a WARP (1, 2, 4, 8, 16, 32), SLOTS of a UNIT (1 .. 16), UNITS (1 .. 8)");
        Mill least = new Mill();
        yes("sizes", least.sizes(1, 1, 1, 1, 1, 512));
        launched(kernel(least, about(1, 6), jump(1)), 1, 1);
        least.run(2);
        least.lanes("one lane", 0, 0, 1, 1, NO_SUCH);
        due("one slot", least.slot(0, 1, 0), NONE);
        due("one unit", least.unit(1, 2), NONE);
        Mill most = new Mill();
        yes("sizes", most.sizes(32, 16, 8, 32, 8, 4096));
        launched(kernel(most, about(1, 0), jump(1)), 9, 512);
        most.run(32);
        due("lane 31 of slot 15 of unit 7", most.lane(7, 15, 31, 1), 511);
        due("block 7", most.slot(7, 15, 0), 7);
        due("no room for block 8", most.shared(8, 0), NO_SUCH);
    }

    private static void wordsOfTheKernel() {
        sentence("Term KERNEL", "A KERNEL of 128 WORDS (longs, all 0 at first)");
        for (int place : new int[] {1, 64, 127}) {
            Mill m = launched(mill(jump(place)), 1, 1);
            due("the word at " + place + " ends the thread", m.run(9), 2);
            due("two cycles", m.state(1), 2);
        }
        due("the word at 0 ends the thread", launched(new Mill(), 1, 1).run(9), 2);
        Mill m = mill(jump(127));
        no("word(128)", m.word(128, put(1, 5)));
        yes("word(127)", m.word(127, put(1, 5)));
        launched(m, 1, 1).run(2);
        m.lanes("word 127 goes", 0, 0, 1, 5);
        Mill longs = launched(mill(put(1, MIN), put(2, -1), put(3, MAX), jump(3)), 1, 1);
        longs.run(3);
        longs.lanes("the highest bit", 0, 0, 1, MIN);
        longs.lanes("all upper bits", 0, 0, 2, -1);
        longs.lanes("all but the highest bit", 0, 0, 3, MAX);
    }

    private static void blocksOfALaunch() {
        sentence("Term LAUNCH", "A LAUNCH: 1 .. 64 BLOCKS");
        Mill m = new Mill();
        for (int blocks : new int[] {0, -1, 65, 128, MIN, MAX}) {
            no("launch of " + blocks + " blocks", m.launch(blocks, 1));
            due("no launch", m.state(0), 0);
        }
        for (int blocks : new int[] {1, 64}) {
            yes("launch of " + blocks + " blocks", m.launch(blocks, 1));
            due("all end", m.run(500), 2);
            due("blocks that have ended", m.state(6), blocks);
        }
    }

    private static void threadsOfABlock() {
        sentence("Term LAUNCH", "of 1 .. LANES * SLOTS THREADS");
        int[][] sizes = {{1, 1}, {1, 16}, {32, 1}, {2, 3}, {4, 4}, {32, 16}};
        for (int[] s : sizes) {
            Mill m = sized(s[0], s[1], 1);
            int most = s[0] * s[1];
            for (int threads : new int[] {0, -1, most + 1, most * 2, MIN, MAX}) {
                no("launch of " + threads + " threads of " + most, m.launch(1, threads));
                due("no launch", m.state(0), 0);
            }
            for (int threads : new int[] {1, most}) {
                yes("launch of " + threads + " threads of " + most, m.launch(1, threads));
                due("all end", m.run(500), 2);
                due("threads that did word 0", m.state(3), threads);
            }
        }
    }

    /** Block 0 leaves 7 in all registers; block 1, behind it in the same slot, keeps its number in one. */
    private static void registersBegin(int number) {
        sentence("Term THREAD", "registers 0 .. 15 (ints, 0 at its beginning)");
        Mill m = sized(4, 1, 1, about(number, 1), equal(0, number, 1), on(0, jump(40)));
        for (int r = 0; r < 16; r++) {
            m.word(3 + r, put(r, 7));
        }
        kernelAt(m, 40, jump(40));
        launched(m, 2, 4);
        m.upTo(19);
        for (int r = 0; r < 16; r++) {
            due("register " + r + " of block 0", m.lane(0, 0, 3, r), 7);
        }
        m.upTo(24);
        due("block 1 is in the slot", m.slot(0, 0, 0), 1);
        for (int r = 0; r < 16; r++) {
            int want = r == number ? 1 : 0;
            m.lanes("register " + r + " of block 1", 0, 0, r, want, want, want, want);
        }
        due("register 16 is none", m.lane(0, 0, 0, 21), NO_SUCH);
    }

    /** Block 0 leaves all predicates true; block 1 goes another way without the help of one. */
    private static void predicatesBegin() {
        sentence("Term THREAD", "PREDICATES 0 .. 3 (false then)");
        Mill m = sized(4, 1, 1, about(1, 1), times(1, 1, 30), add(1, 1, 4), w(42, 0, 1, 0, 0),
            equal(0, 0, 0), equal(1, 0, 0), equal(2, 0, 0), equal(3, 0, 0), END);
        kernelAt(m, 34, jump(34));
        launched(m, 2, 4);
        // times goes in cycle 1, what reads it in cycle 4, so that the predicates come in cycles 6 to 9.
        m.upTo(10);
        for (int p = 0; p < 4; p++) {
            m.lanes("predicate " + p + " of block 0", 0, 0, PREDICATE + p, 1, 1, 1, 1);
        }
        m.upTo(20);
        due("block 1 is in the slot", m.slot(0, 0, 0), 1);
        for (int p = 0; p < 4; p++) {
            m.lanes("predicate " + p + " of block 1", 0, 0, PREDICATE + p, 0, 0, 0, 0);
        }
    }

    private static void placesBegin() {
        sentence("Term THREAD", "a PLACE (0 then)");
        Mill m = launched(mill(put(1, 5), END), 1, 8);
        m.run(1);
        m.lanes("has gone", 0, 0, PLACE, 1, 1, 1, 1);
        m.lanes("has not gone yet", 0, 1, PLACE, 0, 0, 0, 0);
        Mill next = launched(sized(4, 1, 1, put(1, 5), END), 2, 4);
        next.upTo(3);
        due("block 1 is in the slot", next.slot(0, 0, 0), 1);
        next.lanes("it begins at 0 again", 0, 0, PLACE, 1, 1, 1, 1);
        next.lanes("it did word 0", 0, 0, 1, 5, 5, 5, 5);
    }

    private static void threadsOfAWarp() {
        sentence("Term WARP", "THREADS LANES * w .. LANES * w + LANES - 1 of a BLOCK are its WARP w, its LANES from 0 on");
        Mill one = launched(mill(about(1, 0), jump(1)), 1, 4);
        one.run(2);
        one.lanes("a full warp", 0, 0, 1, 0, 1, 2, 3, NO_SUCH);
        due("four threads are one warp", one.slot(0, 1, 0), NONE);
        Mill more = launched(mill(about(1, 0), jump(1)), 1, 5);
        more.run(2);
        due("the fifth is in warp 1", more.slot(0, 1, 1), 1);
        more.lanes("in its lane 0", 0, 1, 1, 4, NO_SUCH, NO_SUCH, NO_SUCH);
        due("there is no warp 2", more.slot(0, 2, 0), NONE);
        Mill two = launched(mill(about(1, 0), jump(1)), 1, 8);
        two.run(2);
        two.lanes("a full warp 1", 0, 1, 1, 4, 5, 6, 7, NO_SUCH);
        due("there is no warp 2", two.slot(0, 2, 0), NONE);
        Mill least = launched(sized(1, 3, 1, about(1, 0), jump(1)), 1, 3);
        least.run(3);
        least.lanes("warps of one lane", 0, 2, 1, 2, NO_SUCH);
    }

    private static void sharedMemoryBegins() {
        sentence("Term BLOCK", "A BLOCK has 64 ints of SHARED MEMORY (0 at its beginning)");
        Mill m = launched(sized(4, 1, 1, put(1, 9), w(53, 0, 0, 1, 0), w(53, 0, 0, 1, 63), END), 2, 4);
        // The words on shared memory go in cycles 1 and 4 (L is 3), the last one in cycle 7.
        m.upTo(7);
        due("int 0 of block 0", m.shared(0, 0), 9);
        due("int 63 of block 0", m.shared(0, 63), 9);
        due("int 64", m.shared(0, 64), NO_SUCH);
        m.upTo(9);
        for (int k = 0; k < 64; k++) {
            due("int " + k + " of block 1, in the same slot", m.shared(1, k), 0);
        }
        due("block 0 has left", m.shared(0, 0), NO_SUCH);
        // The next launch has a block 0 again.
        m.stop();
        launched(m, 1, 4).run(1);
        due("int 0 of the next launch's block 0", m.shared(0, 0), 0);
        due("int 63 of the next launch's block 0", m.shared(0, 63), 0);
    }

    private static void doneInItsCycle() {
        sentence(STEP_0, "What is PENDING, and whose time is the cycle's number, is DONE");
        Mill m = mill(load(1, 0, 8), add(2, 1, 1), jump(2));
        m.set(8, 77);
        launched(m, 1, 1);
        m.upTo(12);
        due("it is not, behind cycle 11", m.state(19), 1);
        m.lanes("not yet", 0, 0, 1, 0);
        m.run(1);
        due("it is, in cycle 12", m.state(19), 0);
        m.lanes("d is there", 0, 0, 1, 77);
        m.lanes("for the word that goes in that cycle, too", 0, 0, 2, 78);
    }

    /** Block 0 writes 7 in cycle 4 (a miss, done in 16); block 1 exchanges 9 in cycle 12 (a hit, done in 16). */
    private static void doneInOrder() {
        sentence(STEP_0, "in the order in which it was asked for");
        Mill m = new Mill();
        m.sizes(1, 1, 2, 1, 1, 512);
        kernel(m, about(1, 1), equal(0, 1, 1), on(0, jump(20)), put(2, 7), store(0, 2, 8), jump(5));
        for (int k = 0; k < 9; k++) {
            m.word(20 + k, put(2, 9));
        }
        kernelAt(m, 29, w(56, 3, 0, 2, 8), jump(30));
        launched(m, 2, 1);
        m.upTo(16);
        due("both are pending", m.state(19), 2);
        m.run(1);
        due("both are done", m.state(19), 0);
        m.lanes("block 1 found what block 0 wrote", 1, 0, 3, 7);
        due("what block 1 wrote stays", m.global(8), 9);
    }

    private static void theFirstUnitWithRoom() {
        sentence(STEP_1, "the next BLOCK (they come in order) goes to the first UNIT "
            + "that has as many free SLOTS as it has WARPS");
        Mill two = launched(sized(4, 3, 2, jump(0)), 3, 8);
        two.run(1);
        blocksInSlots(two, new int[] {0, 0, NONE}, new int[] {1, 1, NONE});
        due("one free slot is too few for two warps", two.shared(2, 0), NO_SUCH);
        Mill three = launched(sized(4, 3, 2, jump(0)), 3, 12);
        three.run(1);
        blocksInSlots(three, new int[] {0, 0, 0}, new int[] {1, 1, 1});
        Mill one = launched(sized(4, 3, 2, jump(0)), 7, 4);
        one.run(1);
        blocksInSlots(one, new int[] {0, 1, 2}, new int[] {3, 4, 5});
        due("no room for block 6", one.shared(6, 0), NO_SUCH);
        // Block 1 ends in cycle 2; only its unit has room then.
        Mill later = launched(sized(1, 1, 2, about(1, 1), equal(0, 1, 1), on(0, END), jump(3)), 3, 1);
        later.upTo(4);
        blocksInSlots(later, new int[] {0}, new int[] {2});
    }

    private static void blocksInSlots(Mill m, int[]... want) {
        for (int u = 0; u < want.length; u++) {
            for (int s = 0; s < want[u].length; s++) {
                due("slot(" + u + ", " + s + ", 0)", m.slot(u, s, 0), want[u][s]);
            }
        }
    }

    private static void theLeastFreeSlots() {
        sentence(STEP_1, "its WARPS take the least free SLOTS, in order");
        // Warps of one lane, two a block. Block 0 ends in cycle 9, or block 1 in cycle 11.
        Mill first = launched(sized(1, 4, 1, about(1, 1), equal(0, 1, 0), on(0, END), jump(3)), 3, 2);
        first.upTo(11);
        blocksInSlots(first, new int[] {2, 2, 1, 1});
        due("warp 0 first", first.slot(0, 0, 1), 0);
        due("then warp 1", first.slot(0, 1, 1), 1);
        Mill second = launched(sized(1, 4, 1, about(1, 1), equal(0, 1, 1), on(0, END), jump(3)), 3, 2);
        second.upTo(13);
        blocksInSlots(second, new int[] {0, 0, 2, 2});
        due("warp 0 first", second.slot(0, 2, 1), 0);
        due("then warp 1", second.slot(0, 3, 1), 1);
        // Slot 4 is free all the time, but never among the least.
        Mill odd = launched(sized(1, 5, 1, about(1, 1), equal(0, 1, 0), on(0, END), jump(3)), 3, 2);
        odd.upTo(11);
        blocksInSlots(odd, new int[] {2, 2, 1, 1, NONE});
    }

    private static void untilOneFindsNoRoom() {
        sentence(STEP_1, "then the next one, until one finds no room");
        Mill m = launched(mill(jump(0)), 9, 4);
        due("not ahead of the first cycle", m.slot(0, 0, 0), NONE);
        m.run(1);
        blocksInSlots(m, new int[] {0, 1, 2, 3}, new int[] {4, 5, 6, 7});
        due("block 8 waits", m.shared(8, 0), NO_SUCH);
        due("what comes in a cycle goes in it", m.state(2), 2);
        // Two blocks leave in one cycle, two come in the next one.
        Mill pairs = launched(sized(1, 1, 2, END), 4, 1);
        due("all end", pairs.run(500), 2);
        due("in two cycles", pairs.state(1), 2);
    }

    private static void unitByUnit() {
        sentence(STEP_2, "UNIT by UNIT");
        // All units ask for line 1 in cycle 0: unit 0 brings it and keeps its gate till cycle 5, the others hit in turn.
        Mill m = launched(sized(1, 1, 8, load(1, 0, 8), jump(1)), 8, 1);
        m.run(1);
        due("unit 0", m.slot(0, 0, MEMORY_TICK), 12);
        for (int unit = 1; unit < 8; unit++) {
            due("unit " + unit, m.slot(unit, 0, MEMORY_TICK), 5 + unit - 1 + 4);
        }
        due("one word in each unit", m.state(2), 8);
    }

    private static void slotZeroComesFirst() {
        sentence(STEP_2, "at the beginning of each LAUNCH the last one, that is SLOT 0 comes first");
        Mill m = launched(mill(jump(0)), 1, 12);
        m.run(1);
        due("slot 0", m.unit(0, 2), 0);
        m.run(1);
        due("slot 1", m.unit(0, 2), 1);
        yes("stop", m.stop());
        launched(m, 1, 12);
        due("the last one", m.unit(0, 2), 3);
        m.run(1);
        due("slot 0 again", m.unit(0, 2), 0);
    }

    private static void roundToItself() {
        sentence(STEP_2, "of the SLOTS behind the one that went last");
        Mill full = launched(mill(jump(0)), 1, 16);
        int[] turns = {0, 1, 2, 3, 0, 1};
        for (int turn : turns) {
            full.run(1);
            due("behind the last slot comes slot 0", full.unit(0, 2), turn);
        }
        sentence(STEP_2, "round to that itself");
        Mill alone = launched(mill(jump(0)), 1, 4);
        alone.run(3);
        due("it goes in each cycle", alone.state(2), 3);
        due("it went last", alone.unit(0, 2), 0);
        Mill least = launched(sized(1, 1, 1, jump(0)), 1, 1);
        least.run(3);
        due("of one slot, too", least.state(2), 3);
    }

    /** Slot 0 waits in cycle 8 for what comes in cycle 9; slot 1 went in cycle 7. */
    private static void theFirstThatIsReady() {
        sentence(STEP_2, "the first whose WARP is READY GOES");
        Mill m = sized(1, 2, 1, about(1, 5), equal(0, 1, 0), on(0, jump(10)), jump(3));
        kernelAt(m, 10, times(2, 1, 1), add(3, 2, 1), jump(12));
        launched(m, 1, 2);
        m.upTo(8);
        due("slot 1 in cycle 7", m.unit(0, 2), 1);
        m.run(1);
        due("slot 1 in cycle 8, too", m.unit(0, 2), 1);
        m.lanes("slot 0 is not ready", 0, 0, PLACE, 11);
        m.run(1);
        due("slot 0 in cycle 9", m.unit(0, 2), 0);
        m.lanes("slot 0 has gone", 0, 0, PLACE, 12);
    }

    private static void lastAlsoWithATrap() {
        sentence(STEP_2, "that is the one that went last then (also with a TRAP)");
        Mill m = sized(1, 2, 1, about(1, 5), equal(0, 1, 1), on(0, jump(10)), jump(3));
        kernelAt(m, 10, NO_WORD);
        launched(m, 1, 2);
        m.upTo(7);
        due("slot 0 in cycle 6", m.unit(0, 2), 0);
        due("slot 1 traps in cycle 7", m.run(1), 3);
        due("slot 1", m.unit(0, 2), 1);
    }

    private static void noneIsReady() {
        sentence(STEP_2, "None, if none is.");
        Mill m = launched(sized(1, 2, 1, times(1, 1, 1), add(2, 1, 1), jump(2)), 1, 2);
        m.upTo(3);
        due("none goes in cycle 2", m.state(2), 2);
        due("nor in the unit", m.unit(0, 3), 2);
        due("slot 1 went last yet", m.unit(0, 2), 1);
        m.run(1);
        due("slot 0 in cycle 3", m.unit(0, 2), 0);
        due("a unit without a warp", m.unit(1, 2), NONE);
    }

    private static void aBlockLeavesAtOnce() {
        sentence(STEP_3, "A BLOCK whose THREADS have all ended leaves its SLOTS in step 2 at once");
        Mill m = launched(sized(1, 2, 1, END), 2, 2);
        due("under way", m.run(1), 1);
        due("one thread of two has ended: it is there yet", m.slot(0, 0, 0), 0);
        due("its warp has ended", m.slot(0, 0, 2), 1);
        due("no block has ended", m.state(6), 0);
        due("under way", m.run(1), 1);
        due("slot 0 is free", m.slot(0, 0, 0), NONE);
        due("slot 1 is free", m.slot(0, 1, 0), NONE);
        due("a block has ended", m.state(6), 1);
        sentence(STEP_3, "they are free for 1 of the next cycle");
        due("not in that cycle", m.shared(1, 0), NO_SUCH);
        m.run(1);
        due("but in the next one", m.slot(0, 0, 0), 1);
        due("and it goes in that", m.state(2), 3);
    }

    private static void overWithTheLastBlock() {
        sentence(STEP_3, "The LAUNCH is over with the cycle behind which all BLOCKS have ended");
        Mill m = launched(mill(END), 1, 1);
        due("over", m.run(500), 2);
        due("one cycle", m.state(1), 1);
        Mill two = launched(sized(1, 1, 1, END), 2, 1);
        due("not with the first one", two.run(1), 1);
        due("over", two.run(1), 2);
    }

    private static void overWithATrap() {
        sentence(STEP_3, "or there was a TRAP, and nothing is PENDING");
        Mill m = launched(mill(NO_WORD), 1, 1);
        due("over", m.run(500), 3);
        due("one cycle", m.state(1), 1);
        Mill pending = trapWithPending();
        due("pending till 12", pending.run(10), 4);
        due("12 cycles have been", pending.state(1), 12);
        due("over", pending.run(500), 3);
        due("with cycle 12", pending.state(1), 13);
    }

    /** Block 0 ends in cycle 4, ahead of the trap of block 1 in that cycle; block 2 would have room then. */
    private static void behindATrapNoStep1() {
        sentence(STEP_3, "(Behind a TRAP there are no steps 1 and 2 any more.)");
        Mill m = sized(1, 1, 2, about(1, 1), equal(0, 1, 1), on(0, jump(10)), put(2, 1), END);
        kernelAt(m, 10, store(0, 0, 8), NO_WORD);
        launched(m, 3, 1);
        due("a trap", m.run(5), 4);
        due("block 0 has ended", m.state(6), 1);
        due("slot 0 of unit 0 is free", m.slot(0, 0, 0), NONE);
        due("pending yet", m.run(5), 4);
        due("no block comes", m.slot(0, 0, 0), NONE);
        due("no block comes", m.shared(2, 0), NO_SUCH);
        due("over in cycle 15", m.run(500), 3);
        due("16 cycles", m.state(1), 16);
        due("no block has come", m.slot(0, 0, 0), NONE);
    }

    private static void behindATrapNoStep2() {
        sentence(STEP_3, "(Behind a TRAP there are no steps 1 and 2 any more.)");
        Mill m = sized(1, 1, 2, about(1, 1), equal(0, 1, 1), on(0, jump(10)), jump(3));
        kernelAt(m, 10, store(0, 0, 8), NO_WORD);
        launched(m, 2, 1);
        due("a trap", m.run(5), 4);
        due("words that went", m.state(2), 9);
        due("pending yet", m.run(8), 4);
        due("no more go", m.state(2), 9);
        due("nor in unit 0", m.unit(0, 3), 5);
    }
}
