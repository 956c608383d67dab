/** The promises 1 to 14, each by its number: ordinary inputs, edges and wrong inputs. */
public final class PromisesTest {
    private static final int NONE = WarpMill.NONE;
    private static final long END = 0L;

    public static void main(String[] args) {
        Check.due("NONE", WarpMill.NONE, -1);
        promise1();
        promise2Bounds();
        promise2Effects();
        promise3();
        promise4();
        promise5();
        promise6Answers();
        promise6Limits();
        promise7();
        promise7BehindATrap();
        promise8();
        promise9();
        promise10();
        promise11();
        promise12();
        promise13();
        promise14();
        Check.end();
    }

    private static WarpMill endless() {
        WarpMill m = new WarpMill();
        Check.kernel(m, Check.w(40, 0, 0, 0, 0));
        return m;
    }

    private static void promise1() {
        WarpMill m = new WarpMill();
        Check.states("new", m, -1, NONE, 0, 0, 0, 0, 0, 0, 0, 0, 0, 0, 0, 0, 0, 4, 4, 2, 4, 2, 512, 0, NONE);
        Check.due("no launch", m.run(500), 0);
        Check.states("no cycle without a launch", m, 7, 0);
        for (int u = 0; u < 2; u++) {
            Check.due("divider", m.unit(u, 0), 0);
            Check.due("shared", m.unit(u, 1), 0);
            Check.due("last", m.unit(u, 2), 3);
            Check.due("went", m.unit(u, 3), 0);
            Check.due("cached", m.cached(u, 0), NONE);
            Check.due("gate's tick", m.cached(u, 4), 0);
            Check.due("slot", m.slot(u, 3, 0), NONE);
        }
        for (int k = 0; k < 512; k += 7) {
            Check.due("global(" + k + ")", m.global(k), 0);
        }
        Check.no("stop()", m.stop());
        // All words are 0 at first: each of the four warps of either unit ends with its first word.
        Check.yes("launch", m.launch(2, 16));
        Check.due("all end", m.run(500), 2);
        Check.states("all end", m, 1, 4, 8, 32, 0, 0, 2, 4);
    }

    private static void promise2Bounds() {
        int[] good = {8, 7, 3, 16, 4, 1024};
        int[][] bad = {
            {0, 3, 5, 6, 7, 12, 24, 33, 64, -1, -4, Integer.MIN_VALUE, Integer.MAX_VALUE},
            {0, 17, -1, Integer.MIN_VALUE, Integer.MAX_VALUE},
            {0, 9, -1, Integer.MIN_VALUE, Integer.MAX_VALUE},
            {0, 3, 31, 64, -2, Integer.MIN_VALUE, Integer.MAX_VALUE},
            {0, 3, 5, 16, 32, -8, Integer.MIN_VALUE, Integer.MAX_VALUE},
            {0, 1, 256, 511, 513, 1536, 8192, -512, Integer.MIN_VALUE, Integer.MAX_VALUE}};
        int[][] fine = {{1, 2, 4, 8, 16, 32}, {1, 2, 3, 5, 9, 15, 16}, {1, 2, 3, 7, 8}, {1, 2, 4, 8, 16, 32}, {1, 2, 4, 8},
            {512, 1024, 2048, 4096}};
        for (int k = 0; k < 6; k++) {
            WarpMill m = new WarpMill();
            for (int v : fine[k]) {
                int[] s = good.clone();
                s[k] = v;
                Check.yes("size " + k + " of " + v, m.sizes(s[0], s[1], s[2], s[3], s[4], s[5]));
                Check.states("size " + k + " of " + v, m, 13, s);
                Check.due("last slot", m.unit(0, 2), s[1] - 1);
            }
            Check.yes("sizes", m.sizes(8, 7, 3, 16, 4, 1024));
            for (int v : bad[k]) {
                int[] s = good.clone();
                s[k] = v;
                Check.no("size " + k + " of " + v, m.sizes(s[0], s[1], s[2], s[3], s[4], s[5]));
                Check.states("size " + k + " of " + v, m, 13, good);
            }
        }
    }

    private static void promise2Effects() {
        WarpMill m = new WarpMill();
        Check.yes("sizes", m.sizes(4, 4, 2, 4, 2, 1024));
        m.set(5, 55);
        m.set(511, 11);
        m.set(512, 12);
        m.set(1023, 23);
        Check.kernel(m, Check.w(3, 1, 0, 0, 4), Check.w(50, 2, 0, 0, 8), Check.w(7, 3, 1, 1, 0));
        m.launch(3, 9);
        Check.no("sizes under way", m.sizes(4, 4, 2, 4, 2, 512));
        Check.due("a trap", m.run(500), 3);
        Check.due("all cycles", m.state(7), m.state(1));
        int all = m.state(7);
        Check.due("a line is cached", m.cached(1, 0), 1);
        Check.due("the block stays behind a trap", m.slot(0, 0, 0), 0);
        Check.yes("smaller", m.sizes(2, 8, 1, 1, 4, 512));
        Check.states("behind sizes", m, 0, 0, 0, 0, 0, 0, 0, 0, all, 0, 0, 0, 0, 0, 2, 8, 1, 1, 4, 512, 0);
        Check.due("run", m.run(7), 0);
        for (int g = 0; g < 4; g++) {
            for (int p = 0; p < 4; p++) {
                Check.due("the cache is empty", m.cached(g, p), NONE);
            }
            Check.due("gates' ticks are 0", m.cached(g, 4), 0);
        }
        Check.due("last", m.unit(0, 2), 7);
        Check.due("went", m.unit(0, 3), 0);
        Check.due("divider", m.unit(0, 0), 0);
        Check.due("shared", m.unit(0, 1), 0);
        Check.due("no such unit any more", m.unit(1, 0), NONE);
        Check.due("a free slot", m.slot(0, 0, 0), NONE);
        Check.due("a free slot's tick", m.slot(0, 0, 6), 0);
        Check.due("no shared memory", Check.of(() -> m.shared(0, 0)), Check.NO_SUCH);
        Check.due("an int stays", m.global(5), 55);
        Check.due("the last one stays", m.global(511), 11);
        Check.due("one goes", Check.of(() -> m.global(512)), Check.NO_SUCH);
        Check.yes("greater", m.sizes(2, 8, 1, 1, 4, 2048));
        Check.due("stays", m.global(511), 11);
        Check.due("comes as 0", m.global(512), 0);
        Check.due("comes as 0", m.global(1023), 0);
        Check.due("comes as 0", m.global(2047), 0);
        // The kernel is still there: it divides by 0 in lane 0 again.
        m.launch(1, 2);
        Check.due("the same trap", m.run(500), 3);
        Check.states("the same trap", m, 8, 3, 0, 0, 2);
    }

    private static void promise3() {
        WarpMill m = new WarpMill();
        for (int k : new int[] {-1, 128, 129, Integer.MIN_VALUE, Integer.MAX_VALUE}) {
            Check.no("word(" + k + ")", m.word(k, 40L));
        }
        for (int k = 0; k < 128; k++) {
            Check.yes("word(" + k + ")", m.word(k, Check.w(18, 1, 1, 0, 1)));
        }
        m.launch(1, 1);
        Check.no("under way", m.word(0, 255L));
        Check.due("beyond 127", m.run(500), 3);
        Check.states("all 128 words went", m, 1, 129, 128);
        Check.lanes("each did what it tells", m, 0, 0, 1, 128);
        Check.yes("behind the end", m.word(0, END));
        m.launch(1, 1);
        Check.due("the new word", m.run(500), 2);
        // Under way behind a trap, as long as something is pending.
        WarpMill p = trapWithPending();
        Check.no("pending", p.word(0, END));
        Check.due("not pending", p.run(500), 3);
        Check.yes("not pending any more", p.word(0, END));
    }

    private static void promise4() {
        WarpMill m = new WarpMill();
        for (int k : new int[] {-1, 512, 513, Integer.MIN_VALUE, Integer.MAX_VALUE}) {
            Check.no("set(" + k + ")", m.set(k, 40));
        }
        Check.yes("set(0)", m.set(0, -1));
        Check.yes("set(511)", m.set(511, Integer.MIN_VALUE));
        Check.due("global(0)", m.global(0), -1);
        Check.due("global(511)", m.global(511), Integer.MIN_VALUE);
        m.sizes(4, 4, 2, 4, 2, 4096);
        Check.yes("set(4095)", m.set(4095, 7));
        Check.no("set(4096)", m.set(4096, 7));
        Check.due("global(4095)", m.global(4095), 7);
        m.launch(1, 1);
        Check.no("under way", m.set(0, 5));
        Check.due("unchanged", m.global(0), -1);
        m.run(1);
        Check.yes("behind the end", m.set(0, 5));
        Check.due("changed", m.global(0), 5);
        WarpMill p = trapWithPending();
        Check.no("pending", p.set(0, 1));
        p.stop();
        Check.yes("stopped", p.set(0, 1));
    }

    private static void promise5() {
        WarpMill m = new WarpMill();
        int[][] bad = {{0, 1}, {65, 1}, {-1, 1}, {1, 0}, {1, 17}, {1, -1}, {Integer.MAX_VALUE, 1}, {1, Integer.MAX_VALUE},
            {Integer.MIN_VALUE, Integer.MIN_VALUE}};
        for (int[] b : bad) {
            Check.no("launch(" + b[0] + ", " + b[1] + ")", m.launch(b[0], b[1]));
            Check.due("no launch", m.state(0), 0);
        }
        Check.yes("the most", m.launch(64, 16));
        Check.states("cycle 0", m, 0, 1, 0);
        Check.no("under way", m.launch(1, 1));
        // Each unit has room for one block; a block's four warps end in four cycles.
        Check.due("all end", m.run(500), 2);
        Check.states("64 blocks", m, 1, 128, 256, 1024, 0, 0, 64, 128);
        Check.yes("again", m.launch(1, 1));
        Check.states("counted anew", m, 0, 1, 0, 0, 0, 0, 0, 0, 128);
        Check.due("last", m.unit(0, 2), 3);
        Check.due("went", m.unit(0, 3), 0);
        m.stop();
        m.sizes(32, 16, 8, 32, 8, 512);
        Check.no("513", m.launch(1, 513));
        Check.yes("512", m.launch(64, 512));
        Check.due("all end", m.run(500), 2);
        Check.states("64 blocks of 16 warps, 8 at once", m, 1, 128, 1024, 32768, 0, 0, 64);
        theCacheStays();
        theDispatcher();
    }

    private static void theCacheStays() {
        WarpMill m = new WarpMill();
        Check.kernel(m, Check.w(50, 2, 0, 0, 16), END);
        m.launch(1, 1);
        m.run(500);
        // A miss in cycle 0 is done at 12: the thread ends in cycle 12.
        Check.states("a miss", m, 1, 13, 2, 2, 0, 1);
        Check.due("line 2", m.cached(0, 1), 2);
        Check.due("its gate's tick", m.cached(0, 4), 5);
        m.launch(1, 1);
        Check.due("what the cache has stays", m.cached(0, 1), 2);
        Check.due("the gate's tick is 0", m.cached(0, 4), 0);
        m.run(500);
        Check.states("a hit", m, 1, 5, 2, 2, 1, 0);
        Check.due("the gate's tick", m.cached(0, 4), 1);
    }

    /** Three slots a unit, blocks of two warps: one block a unit, the third slot stays free. */
    private static void theDispatcher() {
        WarpMill m = new WarpMill();
        m.sizes(2, 3, 2, 1, 1, 512);
        // Warp 0 of a block ends at once, warp 1 a word later.
        Check.kernel(m, Check.w(3, 1, 0, 0, 5), Check.w(33, 0, 1, 0, 0), Check.guarded(8, 0, 0, 0, 0, 0), END);
        m.launch(5, 3);
        Check.due("not dispatched ahead of the first cycle", m.slot(0, 0, 0), NONE);
        m.run(1);
        int[][] want = {{0, 0}, {0, 1}, {NONE, NONE}};
        for (int u = 0; u < 2; u++) {
            for (int s = 0; s < 3; s++) {
                Check.due("block", m.slot(u, s, 0), want[s][0] == NONE ? NONE : u);
                Check.due("warp", m.slot(u, s, 1), want[s][1]);
            }
        }
        // Words go 0 1 0 1 .. by turns: slot 0 has three words, slot 1 four, the last one in cycle 6.
        Check.upTo(m, 6);
        Check.due("warp 0 has ended", m.slot(0, 0, 2), 2);
        Check.due("warp 1 has one thread", m.slot(0, 1, 2), 0);
        m.run(1);
        Check.states("two blocks have ended", m, 6, 2);
        Check.due("free at once", m.slot(0, 0, 0), NONE);
        Check.due("free at once", m.slot(0, 1, 0), NONE);
        m.run(1);
        Check.due("block 2 comes with the next cycle", m.slot(0, 0, 0), 2);
        Check.due("block 3", m.slot(1, 0, 0), 3);
        Check.due("registers are 0 again", m.slot(0, 1, 6), 0);
    }

    private static WarpMill trapWithPending() {
        WarpMill m = new WarpMill();
        Check.kernel(m, Check.w(2, 1, 0, 0, 9), Check.w(51, 0, 0, 1, 40), 255L);
        m.launch(1, 3);
        Check.due("a trap, and something pending", m.run(3), 4);
        return m;
    }

    private static void promise6Answers() {
        WarpMill m = endless();
        Check.due("no launch", m.run(1), 0);
        m.launch(1, 1);
        Check.due("under way", m.run(1), 1);
        Check.due("under way", m.run(500), 1);
        Check.states("cycles", m, 1, 501, 501);
        m.stop();
        m.word(0, END);
        m.launch(1, 1);
        Check.due("over", m.run(500), 2);
        Check.due("one cycle was enough", m.state(1), 1);
        Check.due("over yet", m.run(500), 2);
        Check.due("and no more", m.state(1), 1);
        m.word(0, 255L);
        m.launch(1, 1);
        Check.due("a trap", m.run(500), 3);
        Check.due("that cycle counts", m.state(1), 1);
        Check.due("over by a trap yet", m.run(3), 3);
        Check.due("and no more", m.state(1), 1);
        // 51 goes in cycle 1, its line is done at 13, so cycle 13 is the last one.
        WarpMill p = trapWithPending();
        Check.states("pending", p, 0, 4, 3, 2, 6);
        Check.states("pending", p, 8, 2, 0, 0, 2);
        Check.states("pending", p, 19, 3);
        Check.due("pending yet", p.run(10), 4);
        Check.due("not done", p.global(40), 0);
        Check.due("done", p.run(500), 3);
        Check.due("14 cycles", p.state(1), 14);
        Check.due("done yet behind a trap", p.global(40), 9);
        Check.due("nothing pending", p.state(19), 0);
        for (int n : new int[] {0, -1, 501, Integer.MIN_VALUE, Integer.MAX_VALUE}) {
            Check.due("run(" + n + ")", Check.of(() -> p.run(n)), Check.WRONG_ARGUMENT);
        }
        unitsBehindATrap();
    }

    /** Units go in order; those behind the one that traps don't, those ahead of it have gone. */
    private static void unitsBehindATrap() {
        WarpMill m = new WarpMill();
        m.sizes(1, 1, 3, 1, 1, 512);
        Check.kernel(m, Check.w(3, 1, 0, 0, 1), Check.w(18, 1, 1, 0, -1), Check.w(7, 2, 1, 1, 0), Check.w(40, 0, 0, 0, 3));
        m.launch(3, 1);
        Check.due("block 1 divides by 0", m.run(9), 3);
        Check.states("block 1 divides by 0", m, 1, 3, 7, 7);
        Check.states("block 1 divides by 0", m, 8, 3, 1, 0, 2);
        Check.lanes("unit 0 went", m, 0, 0, 16, 3);
        Check.lanes("unit 1 did not", m, 1, 0, 16, 2);
        Check.lanes("unit 2 did not", m, 2, 0, 16, 2);
        Check.due("words of unit 1", m.unit(1, 3), 2);
        Check.due("divider of unit 2", m.unit(2, 0), 0);
    }

    private static void promise6Limits() {
        WarpMill m = endless();
        m.launch(1, 1);
        for (int k = 0; k < 39; k++) {
            Check.due("under way", m.run(500), 1);
        }
        Check.due("under way", m.run(499), 1);
        Check.states("one is left", m, 7, 19999);
        Check.due("full in its midst", m.run(500), 1);
        Check.states("full", m, 1, 20000, 20000);
        Check.states("full", m, 7, 20000);
        Check.due("full ahead of it", Check.of(() -> m.run(1)), Check.WRONG_STATE);
        Check.due("n is asked first", Check.of(() -> m.run(0)), Check.WRONG_ARGUMENT);
        Check.due("n is asked first", Check.of(() -> m.run(501)), Check.WRONG_ARGUMENT);
        Check.due("it is under way yet", m.state(0), 1);
        Check.yes("stop", m.stop());
        Check.due("without a launch, too", Check.of(() -> m.run(1)), Check.WRONG_STATE);
        Check.yes("launch", m.launch(1, 1));
        Check.due("with another one, too", Check.of(() -> m.run(500)), Check.WRONG_STATE);
        m.stop();
        Check.yes("sizes", m.sizes(4, 4, 2, 4, 2, 512));
        Check.due("cycles in all stay", m.state(7), 20000);
        Check.due("behind sizes, too", Check.of(() -> m.run(500)), Check.WRONG_STATE);
    }

    private static void promise7() {
        WarpMill m = new WarpMill();
        Check.no("no launch", m.stop());
        Check.kernel(m, Check.w(2, 1, 0, 0, 77), Check.w(7, 2, 1, 1, 0), Check.w(58, 3, 0, 1, 5), Check.w(51, 0, 0, 1, 8),
            Check.w(40, 0, 0, 0, 4));
        m.launch(3, 16);
        m.run(200);
        m.stop();
        m.launch(3, 16);
        for (int k = 0; k < 60 && m.state(19) == 0; k++) {
            m.run(1);
        }
        int[] before = new int[20];
        for (int k = 0; k < 20; k++) {
            before[k] = m.state(k);
        }
        int[] unit = {m.unit(0, 0), m.unit(0, 1), m.unit(0, 2), m.unit(0, 3)};
        int tick = m.cached(1, 4);
        Check.due("something is pending", before[19] > 0 ? 1 : 0, 1);
        int was = m.global(8);
        Check.yes("stop", m.stop());
        Check.no("none is under way any more", m.stop());
        before[0] = 0;
        before[19] = 0;
        Check.states("behind stop", m, 0, before);
        for (int k = 0; k < 4; k++) {
            Check.due("unit(0, " + k + ") stays", m.unit(0, k), unit[k]);
        }
        Check.due("a gate's tick stays", m.cached(1, 4), tick);
        Check.due("a line stays", m.cached(1, 0), 1);
        Check.due("run", m.run(100), 0);
        Check.due("never done", m.global(8), was);
        for (int s = 0; s < 4; s++) {
            Check.due("all slots are free", m.slot(0, s, 0), NONE);
            Check.due("all slots are free", m.slot(0, s, 1), NONE);
            Check.due("all slots are free", m.slot(0, s, 4), 0);
        }
        Check.due("no lane", Check.of(() -> m.lane(0, 0, 0, 0)), Check.NO_SUCH);
        Check.due("no shared memory", Check.of(() -> m.shared(0, 5)), Check.NO_SUCH);
        // What was pending does not come back with the next launch.
        m.word(0, Check.w(40, 0, 0, 0, 0));
        m.launch(1, 1);
        m.run(100);
        Check.due("never done", m.global(8), was);
        Check.due("nothing is pending", m.state(19), 0);
        Check.due("divider tick of the next one", m.unit(0, 0), 0);
        Check.due("shared tick of the next one", m.unit(0, 1), 0);
        Check.due("gate tick of the next one", m.cached(1, 4), 0);
        m.stop();
        m.word(0, END);
        m.launch(1, 1);
        m.run(9);
        Check.no("it is over", m.stop());
        Check.due("over yet", m.state(0), 2);
    }

    private static void promise7BehindATrap() {
        WarpMill m = trapWithPending();
        Check.yes("stop", m.stop());
        Check.states("what told of the trap stays", m, 8, 2, 0, 0, 2);
        Check.states("no launch", m, 0, 0, 3);
        Check.states("nothing is pending", m, 19, 0);
        Check.due("run", m.run(100), 0);
        Check.due("never done", m.global(40), 0);
        Check.due("free", m.slot(0, 0, 0), NONE);
        WarpMill over = trapWithPending();
        over.run(100);
        Check.no("it is over", over.stop());
        Check.due("over by a trap", over.state(0), 3);
        Check.due("its slot stays", over.slot(0, 0, 0), 0);
        over.launch(1, 1);
        Check.due("free till the next one's first cycle", over.slot(0, 0, 0), NONE);
        Check.states("no trap any more", over, 8, 0, 0, 0, 0);
    }

    private static void promise8() {
        WarpMill m = new WarpMill();
        for (int k : new int[] {-1, 512, 4095, Integer.MIN_VALUE, Integer.MAX_VALUE}) {
            Check.due("global(" + k + ")", Check.of(() -> m.global(k)), Check.NO_SUCH);
        }
        m.set(511, 3);
        Check.due("global(511)", m.global(511), 3);
        // All that 50 to 57 do, with four lanes at one int: register 1 is the lane + 1.
        int[][] want = {
            {50, 100, 100, 100, 100, 100}, {51, 4, 0, 0, 0, 0}, {54, 110, 100, 101, 103, 106}, {55, 100, 100, 100, 100, 100},
            {56, 4, 100, 1, 2, 3}, {57, 100, 100, 100, 100, 100}};
        for (int[] w : want) {
            WarpMill x = new WarpMill();
            x.set(21, 100);
            Check.kernel(x, Check.w(3, 1, 0, 0, 4), Check.w(18, 1, 1, 0, 1), Check.w(w[0], 3, 0, 1, 21), Check.w(40, 0, 0, 0, 3));
            x.launch(1, 4);
            // Asked for in cycle 2, line 2 misses: done at 14. Three lanes ask for what one before does.
            Check.upTo(x, 14);
            Check.due("op " + w[0] + " is pending", x.state(19), 4);
            Check.due("op " + w[0] + " is not done yet", x.global(21), 100);
            Check.lanes("op " + w[0] + " is not done yet", x, 0, 0, 3, 0, 0, 0, 0);
            x.run(1);
            Check.due("op " + w[0] + " is done", x.state(19), 0);
            Check.due("op " + w[0] + " leaves", x.global(21), w[1]);
            Check.lanes("op " + w[0], x, 0, 0, 3, w[2], w[3], w[4], w[5]);
            Check.due("op " + w[0] + ": memory tick", x.slot(0, 0, 4), w[0] >= 54 ? 17 : 14);
            Check.due("op " + w[0] + ": tick of d", x.slot(0, 0, 8), w[0] == 51 ? 0 : w[0] >= 54 ? 17 : 14);
        }
        greaterAndCompared();
        inTheOrderAskedFor();
    }

    private static void greaterAndCompared() {
        WarpMill m = new WarpMill();
        m.set(21, 2);
        m.set(22, 5);
        // 55 with 1 .. 4 at 21, which holds 2. 57 at 22, which holds 5: lane 1 takes it, then none finds 5.
        Check.kernel(m, Check.w(3, 1, 0, 0, 4), Check.w(18, 1, 1, 0, 1), Check.w(55, 3, 0, 1, 21), Check.w(33, 0, 1, 0, 1),
            Check.w(2, 4, 0, 0, 5), Check.guarded(8, 2, 4, 0, 0, 6), Check.w(57, 4, 0, 1, 22), Check.w(40, 0, 0, 0, 7));
        m.launch(1, 4);
        m.run(100);
        Check.due("op 55 leaves the greatest", m.global(21), 4);
        Check.lanes("op 55", m, 0, 0, 3, 2, 2, 2, 3);
        Check.due("op 57 leaves that of lane 1", m.global(22), 2);
        Check.lanes("op 57", m, 0, 0, 4, 5, 5, 2, 2);
    }

    /** A line that a warp brings is done at 12; one that hits it is done 4 behind its own cycle. */
    private static void inTheOrderAskedFor() {
        // Block 0 asks in cycle 4: done at 16, gate's tick 9. Block 1 asks in cycle 3 + waits: with 5 to 8 it is
        // done at 13, 13, 14, 15: ahead of block 0's, so that 1 stays.
        for (int waits = 5; waits <= 8; waits++) {
            WarpMill x = twoWriters(waits);
            Check.upTo(x, 17);
            Check.due("a hit may be done ahead of the miss before it", x.global(8), 1);
        }
        // With 9 it asks in cycle 12 and is done at 16, too: behind block 0's, so that 2 stays.
        WarpMill x = twoWriters(9);
        Check.upTo(x, 16);
        Check.due("both are pending", x.state(19), 2);
        Check.due("a hit", x.state(4), 1);
        x.run(1);
        Check.due("both are done", x.state(19), 0);
        Check.due("in the order asked for", x.global(8), 2);
    }

    /** Block 0 writes 1 at int 8 of global memory in cycle 4, block 1 writes 2 there, in cycle 3 + waits. */
    private static WarpMill twoWriters(int waits) {
        WarpMill x = new WarpMill();
        x.sizes(1, 1, 2, 1, 1, 512);
        Check.kernel(x, Check.w(3, 1, 0, 0, 1), Check.w(33, 0, 1, 0, 1), Check.guarded(8, 40, 0, 0, 0, 10),
            Check.w(18, 2, 1, 0, 1), Check.w(51, 0, 0, 2, 8), Check.w(40, 0, 0, 0, 5));
        for (int k = 0; k < waits; k++) {
            x.word(10 + k, Check.w(2, 2, 0, 0, 2));
        }
        x.word(10 + waits, Check.w(51, 0, 0, 2, 8));
        x.word(11 + waits, Check.w(40, 0, 0, 0, 11 + waits));
        x.launch(2, 1);
        return x;
    }

    private static void promise9() {
        WarpMill m = new WarpMill();
        for (int k : new int[] {-1, 20, 21, Integer.MIN_VALUE, Integer.MAX_VALUE}) {
            Check.due("state(" + k + ")", m.state(k), NONE);
        }
        // 6 threads: warps of 4 and of 2. Lanes 0 and 1 of either do word 2; all go on.
        Check.kernel(m, Check.w(3, 1, 0, 0, 4), Check.w(32, 0, 1, 0, 2), Check.guarded(8, 50, 2, 0, 0, 9), END);
        m.launch(1, 6);
        Check.due("over", m.run(500), 2);
        // Words 0, 1, 2 by turns: cycles 0 .. 5. 50 misses in cycle 4 (done 16); hits in 5, its gate's tick is 9
        // then: done 13. Warp 1 ends in 13, warp 0 in 16.
        Check.states("counted", m, 0, 2, 17, 8, 12 + 4 + 6, 1, 1, 1, 17, 0, 0, 0, 0, 1);
        // Another launch counts anew, but for cycles in all.
        m.launch(1, 1);
        m.run(1);
        Check.states("counted anew", m, 0, 1, 1, 1, 1, 0, 0, 0, 18, 0, 0, 0, 0, 0);
        Check.states("sizes", m, 13, 4, 4, 2, 4, 2, 512, 0);
        differentLines();
    }

    /** Four lanes, 8 ints apart: four lines, two a gate; each begins when its gate is free. */
    private static void differentLines() {
        WarpMill m = new WarpMill();
        Check.kernel(m, Check.w(3, 1, 0, 0, 4), Check.w(19, 1, 1, 0, 8), Check.w(50, 2, 1, 0, 0), Check.w(40, 0, 0, 0, 3));
        for (int k = 0; k < 512; k += 8) {
            m.set(k, k + 1000);
        }
        m.launch(1, 4);
        Check.upTo(m, 5);
        // 19 goes in cycle 1, is there at 4. Lines 0, 1 begin at 4 (done 16), 2, 3 at 9 (done 21).
        Check.states("four lines", m, 4, 0, 4);
        Check.due("memory tick", m.slot(0, 0, 4), 21);
        Check.due("tick of d", m.slot(0, 0, 7), 21);
        Check.due("gate 0", m.cached(0, 4), 14);
        Check.due("gate 1", m.cached(1, 4), 14);
        Check.upTo(m, 16);
        Check.states("all pending", m, 19, 4);
        Check.lanes("none is done", m, 0, 0, 2, 0, 0, 0, 0);
        m.run(1);
        Check.states("two pending", m, 19, 2);
        Check.lanes("those of two lines are done", m, 0, 0, 2, 1000, 1008, 0, 0);
        m.run(4);
        Check.states("two pending", m, 19, 2);
        m.run(1);
        Check.states("none pending", m, 19, 0);
        Check.lanes("all are done", m, 0, 0, 2, 1000, 1008, 1016, 1024);
    }

    private static void promise10() {
        WarpMill m = new WarpMill();
        for (int u : new int[] {-1, 2, 8, Integer.MIN_VALUE, Integer.MAX_VALUE}) {
            Check.due("unit(" + u + ", 0)", m.unit(u, 0), NONE);
        }
        for (int what : new int[] {-1, 4, Integer.MIN_VALUE, Integer.MAX_VALUE}) {
            Check.due("unit(0, " + what + ")", m.unit(0, what), NONE);
        }
        // Three warps in unit 0: slots 0, 1, 2, round; slot 3 is free.
        Check.kernel(m, Check.w(40, 0, 0, 0, 0));
        m.launch(1, 12);
        Check.due("the last one", m.unit(0, 2), 3);
        int[] last = {0, 1, 2, 0, 1, 2, 0};
        for (int k = 0; k < last.length; k++) {
            m.run(1);
            Check.due("went last", m.unit(0, 2), last[k]);
            Check.due("words", m.unit(0, 3), k + 1);
            Check.due("none in unit 1", m.unit(1, 2), 3);
            Check.due("none in unit 1", m.unit(1, 3), 0);
        }
        m.stop();
        Check.due("stays behind stop", m.unit(0, 2), 0);
        m.launch(1, 12);
        Check.due("anew", m.unit(0, 2), 3);
        m.stop();
        sharedTicks();
    }

    /** A word on shared memory in cycle 2; 4 banks; register 1 is the lane times the stride. */
    private static void sharedWord(int op, int stride, int guard, int m, String what) {
        WarpMill x = new WarpMill();
        x.sizes(8, 2, 1, 4, 1, 512);
        Check.kernel(x, Check.w(3, 1, 0, 0, 4), Check.w(2, 2, 0, 0, stride), Check.w(6, 1, 1, 2, 0),
            Check.guarded(guard, op, 3, 1, 2, 0), Check.w(40, 0, 0, 0, 4));
        x.launch(1, 8);
        // 6 goes in cycle 2 and is there at 5.
        Check.upTo(x, 6);
        String where = "op " + op + ", " + what;
        Check.due(where + ": shared tick", x.unit(0, 1), 5 + Math.max(m, 1));
        Check.due(where + ": memory tick", x.slot(0, 0, 4), 5 + 2 + m);
        Check.due(where + ": tick of d", x.slot(0, 0, 8), op == 53 ? 0 : 5 + 2 + m);
    }

    private static void sharedTicks() {
        for (int op : new int[] {52, 53}) {
            sharedWord(op, 0, 0, 1, "one int for all");
            sharedWord(op, 1, 0, 2, "8 ints in 4 banks");
            sharedWord(op, 2, 0, 4, "8 ints in 2 banks");
            sharedWord(op, 4, 0, 8, "8 ints in a bank");
            sharedWord(op, 5, 0, 2, "8 ints in 4 banks");
            sharedWord(op, 1, 8, 0, "no lane");
        }
        for (int op : new int[] {58, 59}) {
            sharedWord(op, 0, 0, 8, "one int for all");
            sharedWord(op, 1, 0, 2, "8 ints in 4 banks");
            sharedWord(op, 4, 0, 8, "8 ints in a bank");
            sharedWord(op, 1, 8, 0, "no lane");
        }
        // Another warp of the unit waits for the shared tick, not for the first one's memory tick.
        WarpMill x = new WarpMill();
        x.sizes(8, 2, 1, 4, 1, 512);
        Check.kernel(x, Check.w(58, 1, 0, 0, 0), Check.w(1, 0, 0, 0, 0), END);
        x.launch(1, 16);
        x.run(8);
        Check.due("the first one went in cycle 0", x.slot(0, 0, 4), 10);
        Check.lanes("the other one waits", x, 0, 1, 16, 0);
        Check.due("only one went", x.state(2), 1);
        x.run(1);
        Check.lanes("it goes in cycle 8", x, 0, 1, 16, 1);
        Check.due("it went in cycle 8", x.slot(0, 1, 4), 18);
        x.run(1);
        Check.due("the barrier waits for the memory tick", x.slot(0, 0, 3), 0);
        x.run(1);
        Check.due("it is there in cycle 10", x.slot(0, 0, 3), 8);
    }

    private static void promise11() {
        WarpMill m = new WarpMill();
        int[][] bad = {{-1, 0}, {2, 0}, {2, 4}, {0, -1}, {0, 5}, {Integer.MAX_VALUE, 0}, {0, Integer.MIN_VALUE}};
        for (int[] b : bad) {
            Check.due("cached(" + b[0] + ", " + b[1] + ")", m.cached(b[0], b[1]), NONE);
        }
        // Lines 0 .. 9 with 2 gates: line k is at gate k & 1, place (k / 2) & 3: 8 and 9 come where 0 and 1 were.
        Check.kernel(m, Check.w(3, 1, 0, 0, 1), Check.w(19, 1, 1, 0, 8), Check.w(51, 0, 1, 1, 7), END);
        m.launch(10, 1);
        Check.due("over", m.run(500), 2);
        int[][] want = {{8, 2, 4, 6}, {9, 3, 5, 7}};
        for (int g = 0; g < 2; g++) {
            for (int p = 0; p < 4; p++) {
                Check.due("cached(" + g + ", " + p + ")", m.cached(g, p), want[g][p]);
            }
        }
        Check.states("ten lines", m, 4, 0, 10);
        Check.due("written through", m.global(8 * 9 + 7), 72);
        // Line 0 has to come again, line 2 is there.
        m.word(0, Check.w(50, 1, 0, 0, 0));
        m.word(1, Check.w(50, 1, 0, 0, 16));
        m.word(2, END);
        m.launch(1, 1);
        m.run(100);
        Check.states("a miss and a hit", m, 4, 1, 1);
        Check.due("line 0 is back", m.cached(0, 0), 0);
        // A trap of one lane leaves the cache as it is.
        m.word(0, Check.w(3, 1, 0, 0, 4));
        m.word(1, Check.w(19, 1, 1, 0, 200));
        m.word(2, Check.w(50, 2, 1, 0, 80));
        m.launch(1, 4);
        Check.due("lane 3 asks for 680", m.run(100), 3);
        Check.states("lane 3 asks for 680", m, 8, 4, 0, 3, 2);
        Check.states("no line is asked for", m, 4, 0, 0);
        Check.due("no line comes", m.cached(0, 1), 2);
        Check.due("no tick", m.cached(0, 4), 0);
        noneAsks();
        oneAtATime();
    }

    /** A warp's memory tick keeps back its next word on either memory, not its other words. */
    private static void oneAtATime() {
        int[] ops = {50, 51, 52, 53, 54, 55, 56, 57, 58, 59};
        for (int op : ops) {
            WarpMill m = new WarpMill();
            Check.kernel(m, Check.w(51, 0, 0, 0, 100), Check.w(2, 1, 0, 0, 1), Check.w(op, 2, 0, 0, 9), Check.w(40, 0, 0, 0, 3));
            m.launch(1, 1);
            Check.upTo(m, 12);
            Check.lanes("op " + op + " waits", m, 0, 0, 16, 2);
            m.run(1);
            Check.lanes("op " + op + " goes in cycle 12", m, 0, 0, 16, 3);
        }
    }

    private static void noneAsks() {
        for (int op : new int[] {50, 51, 54, 57}) {
            WarpMill m = new WarpMill();
            Check.kernel(m, Check.guarded(8, op, 2, 1, 1, 9), Check.w(40, 0, 0, 0, 1));
            m.launch(1, 4);
            m.run(1);
            Check.due("op " + op + " of none: memory tick", m.slot(0, 0, 4), 1);
            Check.due("op " + op + " of none: tick of d", m.slot(0, 0, 7), op == 51 ? 0 : 1);
            Check.states("op " + op + " of none", m, 2, 1, 0, 0, 0);
            Check.states("op " + op + " of none", m, 12, 1);
            Check.states("op " + op + " of none", m, 19, 0);
        }
    }

    private static void promise12() {
        WarpMill m = new WarpMill();
        int[][] bad = {{-1, 0, 2}, {2, 0, 2}, {0, -1, 2}, {0, 4, 2}, {0, 0, -1}, {0, 0, 25}, {0, 0, Integer.MAX_VALUE},
            {Integer.MIN_VALUE, 0, 2}, {0, Integer.MAX_VALUE, 2}};
        for (int[] b : bad) {
            Check.due("slot(" + b[0] + ", " + b[1] + ", " + b[2] + ")", m.slot(b[0], b[1], b[2]), NONE);
        }
        for (int what = 0; what < 25; what++) {
            Check.due("a free slot's " + what, m.slot(1, 3, what), what < 2 ? NONE : 0);
        }
        // Lane 0 ends, lanes 1 and 2 wait, lane 3 writes 15 and predicate 3 and goes on and on.
        Check.kernel(m, Check.w(3, 1, 0, 0, 4), Check.w(32, 0, 1, 0, 1), Check.w(32, 1, 1, 0, 3), Check.guarded(8, 0, 0, 0, 0, 0),
            Check.guarded(9, 1, 0, 0, 0, 0), Check.w(19, 15, 1, 0, 2), Check.w(70, 3, 0, 0, 0), Check.w(40, 0, 0, 0, 7));
        m.launch(1, 4);
        Check.upTo(m, 20);
        Check.due("block", m.slot(0, 0, 0), 0);
        Check.due("warp", m.slot(0, 0, 1), 0);
        Check.due("ended", m.slot(0, 0, 2), 1);
        Check.due("wait", m.slot(0, 0, 3), 2);
        Check.due("memory", m.slot(0, 0, 4), 0);
        Check.due("register 0", m.slot(0, 0, 5), 0);
        Check.due("register 1", m.slot(0, 0, 6), 1);
        Check.due("register 15", m.slot(0, 0, 20), 8);
        Check.due("predicate 0", m.slot(0, 0, 21), 2);
        Check.due("predicate 1", m.slot(0, 0, 22), 3);
        Check.due("predicate 2", m.slot(0, 0, 23), 0);
        Check.due("predicate 3", m.slot(0, 0, 24), 8);
        Check.lanes("places", m, 0, 0, 16, 4, 5, 5, 7);
        Check.lanes("only lane 3 did it", m, 0, 0, 15, 0, 0, 0, 6);
        barriers();
    }

    private static void barriers() {
        WarpMill m = new WarpMill();
        // Warp 0 waits from cycle 0 on; warp 1 jumps twice first; both go on when it waits, too.
        Check.kernel(m, Check.w(3, 1, 0, 0, 5), Check.w(33, 0, 1, 0, 1), Check.guarded(8, 40, 0, 0, 0, 5), Check.w(1, 0, 0, 0, 0),
            Check.w(40, 0, 0, 0, 4), Check.w(2, 2, 0, 0, 1), Check.w(2, 2, 0, 0, 2), Check.w(40, 0, 0, 0, 3));
        m.launch(1, 8);
        // By turns: slot 0 in cycles 0, 2, 4, 6 (it waits then), slot 1 in 1, 3, 5, 7, 8, 9, 10 (it waits then).
        Check.upTo(m, 7);
        Check.due("warp 0 waits", m.slot(0, 0, 3), 4);
        Check.lanes("its place is the next one", m, 0, 0, 16, 4, 4, 4, 4);
        m.run(3);
        Check.due("warp 0 waits", m.slot(0, 0, 3), 4);
        Check.states("a word in each cycle", m, 2, 10);
        m.run(1);
        Check.due("none waits any more", m.slot(0, 0, 3), 0);
        Check.due("none waits any more", m.slot(0, 1, 3), 0);
        Check.lanes("places", m, 0, 1, 16, 4, 4, 4, 4);
        // The last one that has not come to the barrier ends: the others go on.
        WarpMill x = new WarpMill();
        Check.kernel(x, Check.w(3, 1, 0, 0, 4), Check.w(33, 0, 1, 0, 2), Check.guarded(12, 1, 0, 0, 0, 0),
            Check.guarded(8, 0, 0, 0, 0, 0), Check.w(40, 0, 0, 0, 4));
        x.launch(1, 4);
        x.run(3);
        Check.due("three wait", x.slot(0, 0, 3), 3);
        x.run(1);
        Check.due("none waits any more", x.slot(0, 0, 3), 0);
        Check.due("one has ended", x.slot(0, 0, 2), 1);
        x.run(1);
        // The three stand at 3: their guard does not hold there.
        Check.lanes("they go on", x, 0, 0, 16, 4, 4, 4, 4);
        Check.states("they don't do word 3", x, 2, 5, 4 + 4 + 3 + 1);
        Check.states("words not all of a group did", x, 12, 2);
        // A barrier behind another one waits for all once more.
        WarpMill y = new WarpMill();
        Check.kernel(y, Check.w(1, 0, 0, 0, 0), Check.w(1, 0, 0, 0, 0), Check.w(40, 0, 0, 0, 2));
        y.launch(1, 12);
        int[][] waiting = {{4, 0, 0}, {4, 4, 0}, {0, 0, 0}, {4, 0, 0}, {4, 4, 0}, {0, 0, 0}};
        for (int k = 0; k < waiting.length; k++) {
            y.run(1);
            for (int s = 0; s < 3; s++) {
                Check.due("behind cycle " + k + ", slot " + s, y.slot(0, s, 3), waiting[k][s]);
            }
        }
        // One thread alone never waits.
        WarpMill one = new WarpMill();
        Check.kernel(one, Check.w(1, 0, 0, 0, 0), END);
        one.launch(1, 1);
        Check.due("over", one.run(9), 2);
        Check.due("two cycles", one.state(1), 2);
    }

    private static void promise13() {
        WarpMill m = new WarpMill();
        Check.due("a free slot", Check.of(() -> m.lane(0, 0, 0, 0)), Check.NO_SUCH);
        Check.kernel(m, Check.w(3, 15, 0, 0, 0), Check.w(33, 3, 15, 0, 5), Check.w(40, 0, 0, 0, 2));
        m.launch(1, 6);
        Check.due("ahead of the first cycle", Check.of(() -> m.lane(0, 0, 0, 0)), Check.NO_SUCH);
        m.run(6);
        Check.lanes("register 15", m, 0, 1, 15, 4, 5, Check.NO_SUCH, Check.NO_SUCH, Check.NO_SUCH);
        Check.lanes("register 0", m, 0, 0, 0, 0, 0, 0, 0, Check.NO_SUCH);
        Check.lanes("place", m, 0, 1, 16, 2, 2, Check.NO_SUCH);
        Check.lanes("predicate 0", m, 0, 1, 17, 0, 0, Check.NO_SUCH);
        Check.lanes("predicate 3", m, 0, 1, 20, 0, 1, Check.NO_SUCH);
        int[][] bad = {{-1, 0, 0, 0}, {2, 0, 0, 0}, {1, 0, 0, 0}, {0, -1, 0, 0}, {0, 2, 0, 0}, {0, 4, 0, 0}, {0, 0, -1, 0},
            {0, 0, 4, 0}, {0, 0, 0, -1}, {0, 0, 0, 21}, {0, 0, 32, 0}, {Integer.MAX_VALUE, 0, 0, 0},
            {0, Integer.MIN_VALUE, 0, 0}, {0, 0, Integer.MAX_VALUE, 0}, {0, 0, 0, Integer.MIN_VALUE}};
        for (int[] b : bad) {
            Check.due("lane(" + b[0] + ", " + b[1] + ", " + b[2] + ", " + b[3] + ")",
                Check.of(() -> m.lane(b[0], b[1], b[2], b[3])), Check.NO_SUCH);
        }
        // 32 lanes: the last one's bit is the sign of an int.
        WarpMill w = new WarpMill();
        w.sizes(32, 1, 1, 32, 8, 512);
        Check.kernel(w, Check.w(3, 1, 0, 0, 4), Check.w(32, 0, 1, 0, 31), Check.guarded(12, 2, 2, 0, 0, 7),
            Check.w(72, 3, 0, 0, 0), Check.w(40, 0, 0, 0, 4));
        w.launch(1, 32);
        w.run(4);
        Check.due("lane 31 did it", w.lane(0, 0, 31, 2), 7);
        Check.due("lane 30 did not", w.lane(0, 0, 30, 2), 0);
        Check.due("31 have the predicate", w.lane(0, 0, 31, 3), 31);
        Check.due("lane 32", Check.of(() -> w.lane(0, 0, 32, 0)), Check.NO_SUCH);
        anew();
    }

    /** A warp that comes where another was begins with nothing: not registers, nor predicates, nor ticks. */
    private static void anew() {
        WarpMill m = new WarpMill();
        m.sizes(4, 1, 1, 1, 1, 512);
        // Block 1 must not see what block 0 has left: it goes on and on at 6 without having written.
        Check.kernel(m, Check.w(3, 1, 0, 0, 1), Check.w(33, 0, 1, 0, 1), Check.guarded(8, 40, 0, 0, 0, 6),
            Check.w(2, 2, 0, 0, 99), Check.w(53, 0, 0, 2, 3), END, Check.w(40, 0, 0, 0, 6));
        m.launch(2, 4);
        Check.upTo(m, 4);
        Check.lanes("register 2 of block 0", m, 0, 0, 2, 99, 99, 99, 99);
        m.run(60);
        Check.due("block 1", m.slot(0, 0, 0), 1);
        Check.lanes("register 2 of block 1", m, 0, 0, 2, 0, 0, 0, 0);
        Check.due("tick of register 2", m.slot(0, 0, 7), 0);
        Check.due("memory tick", m.slot(0, 0, 4), 0);
        Check.due("shared memory", m.shared(1, 3), 0);
        // The next launch has blocks 0 and 1 once more.
        m.stop();
        Check.kernel(m, Check.w(33, 1, 0, 0, 0), Check.w(53, 0, 0, 0, 4), END);
        m.launch(2, 4);
        m.run(1);
        Check.due("shared memory of the new block 0", m.shared(0, 3), 0);
        Check.lanes("a predicate of block 0", m, 0, 0, 18, 1, 1, 1, 1);
        Check.lanes("another one", m, 0, 0, 17, 0, 0, 0, 0);
        m.run(500);
        m.word(0, Check.w(40, 0, 0, 0, 0));
        m.launch(1, 4);
        m.run(1);
        Check.lanes("a predicate of the next one", m, 0, 0, 18, 0, 0, 0, 0);
    }

    private static void promise14() {
        WarpMill m = new WarpMill();
        Check.due("no block", Check.of(() -> m.shared(0, 0)), Check.NO_SUCH);
        // Both warps of a block add to int 63, and leave their lane at 4 .. 7 (warp 1 last).
        Check.kernel(m, Check.w(3, 1, 0, 0, 0), Check.w(20, 2, 1, 0, 3), Check.w(58, 3, 0, 1, 63), Check.w(53, 0, 2, 1, 4),
            Check.w(52, 4, 2, 0, 4), Check.w(59, 5, 0, 1, 9), Check.w(40, 0, 0, 0, 6));
        m.launch(3, 8);
        Check.due("not in a unit yet", Check.of(() -> m.shared(0, 0)), Check.NO_SUCH);
        m.run(1);
        Check.due("in a unit", m.shared(0, 63), 0);
        m.run(200);
        for (int b = 0; b < 3; b++) {
            Check.due("sum of block " + b, m.shared(b, 63), 28);
            for (int k = 0; k < 4; k++) {
                Check.due("shared(" + b + ", " + (4 + k) + ")", m.shared(b, 4 + k), 4 + k);
            }
            Check.due("of several lanes the last one's stays", m.shared(b, 9), 7);
        }
        Check.lanes("op 58", m, 0, 0, 3, 0, 0, 1, 3);
        Check.lanes("op 58", m, 0, 1, 3, 6, 10, 15, 21);
        Check.lanes("op 52", m, 0, 1, 4, 4, 5, 6, 7);
        Check.lanes("op 59", m, 0, 0, 5, 0, 0, 1, 2);
        Check.lanes("op 59", m, 0, 1, 5, 3, 4, 5, 6);
        int[][] bad = {{-1, 0}, {3, 0}, {64, 0}, {0, -1}, {0, 64}, {Integer.MAX_VALUE, 0}, {0, Integer.MIN_VALUE}};
        for (int[] b : bad) {
            Check.due("shared(" + b[0] + ", " + b[1] + ")", Check.of(() -> m.shared(b[0], b[1])), Check.NO_SUCH);
        }
        m.stop();
        Check.due("given up", Check.of(() -> m.shared(0, 63)), Check.NO_SUCH);
        m.word(0, END);
        m.launch(1, 1);
        m.run(1);
        Check.due("it has ended", Check.of(() -> m.shared(0, 63)), Check.NO_SUCH);
    }
}
