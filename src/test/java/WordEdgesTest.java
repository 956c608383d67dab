/** Boundary cases of the term WORD: its fields, its GUARD and its ops, a sentence each. */
public final class WordEdgesTest extends Edges {
    private static final String WORD = "Term WORD";
    private static final int[] OPS = {0, 1, 2, 3, 4, 5, 6, 7, 8, 9, 10, 11, 12, 13, 14, 15, 16, 17, 18, 19, 20, 21,
        30, 31, 32, 33, 34, 35, 36, 40, 41, 42, 50, 51, 52, 53, 54, 55, 56, 57, 58, 59, 70, 71, 72, 73};

    public static void main(String[] args) {
        fields();
        bitsThatDoNotCount();
        guards();
        lowestTwoBits();
        intsWrap();
        addressesWrap();
        theThreadEnds();
        placeOfOneThatWaits();
        barrierOfAll();
        barrierOnceMore();
        barrierOfTheBlock();
        barrierWhenOneEnds();
        numbersOfAThread();
        noOtherNumber();
        sumsAndProducts();
        quotients();
        rests();
        bitByBit();
        shifts();
        lesserAndGreater();
        upperInts();
        constants();
        choice();
        comparisons();
        truths();
        jumps();
        intsOfGlobalMemory();
        theLastLaneStays();
        sharedAtOnce();
        laneByLane();
        greaterOne();
        ifItWasWhatDWas();
        sharedLaneByLane();
        votes();
        exchange();
        exchangeWithOthers();
        readsA();
        readsB();
        readsPredicates();
        writesRegisters();
        writesPredicates();
        Check.end();
    }

    private static void fields() {
        sentence(WORD, "op: bits 0 .. 7, d: 8 .. 11, a: 12 .. 15, b: 16 .. 19, g: 20 .. 23, n: the int in bits 32 .. 63");
        Mill m = launched(mill(put(15, 21), w(4, 15, 15, 15, 0), add(14, 15, MAX), add(13, 15, MIN), jump(4)), 1, 1);
        m.run(4);
        m.lanes("d, a and b are 15", 0, 0, 15, 42);
        m.lanes("n is the greatest int", 0, 0, 14, 42 + MAX);
        m.lanes("n is the least int", 0, 0, 13, 42 + MIN);
        Mill bits = launched(mill(put(8, 1), put(4, 2), put(2, 4), put(1, 8), w(10, 8, 4, 2, 0), w(10, 4, 2, 1, 0),
            w(10, 2, 1, 8, 0), jump(7)), 1, 1);
        bits.run(7);
        bits.lanes("8 is 4 or 2", 0, 0, 8, 6);
        bits.lanes("4 is 2 or 1", 0, 0, 4, 12);
        bits.lanes("2 is 1 or 8", 0, 0, 2, 14);
        Mill high = launched(mill(put(1, 1) | 128), 1, 1);
        due("bit 7 is of the op", high.run(9), 3);
    }

    private static void bitsThatDoNotCount() {
        sentence(WORD, "(bits 24 .. 31 do not count)");
        for (int bit = 24; bit < 32; bit++) {
            Mill m = launched(mill(put(1, 7) | 1L << bit, store(0, 1, 8) | 1L << bit, END | 1L << bit), 1, 1);
            due("with bit " + bit, m.run(50), 2);
            due("with bit " + bit, m.global(8), 7);
        }
        Mill all = launched(mill(put(1, -2) | 0xff000000L, equal(1, 1, -2) | 0xff000000L, on(1, add(2, 1, 5)) | 0xff000000L,
            jump(3) | 0xff000000L), 1, 1);
        all.run(9);
        all.lanes("with all of them", 0, 0, 2, 3);
    }

    private static void guards() {
        sentence(WORD, "GUARD: if g is 8 or more, PREDICATE g & 3 must be true (with bit 2 of g: false)");
        for (int g = 0; g < 16; g++) {
            // The predicate of g is true in lanes 0 and 1; then that of no lane is.
            int low = g < 12 ? 9 : 0;
            int high = g < 8 || g >= 12 ? 9 : 0;
            Mill m = launched(mill(about(1, 4), less(g & 3, 1, 2), put(5, 9) | (long) g << 20, jump(3)), 1, 4);
            m.run(3);
            m.lanes("g is " + g, 0, 0, 5, low, low, high, high);
            Mill other = launched(mill(about(1, 4), less(g + 1 & 3, 1, 4), put(5, 9) | (long) g << 20, jump(3)), 1, 4);
            other.run(3);
            other.lanes("g is " + g + ", another predicate", 0, 0, 5, high, high, high, high);
        }
    }

    private static void lowestTwoBits() {
        sentence(WORD, "pd, pa, pb PREDICATES: the lowest two bits of d, a, b");
        for (int k = 0; k < 16; k++) {
            Mill m = launched(mill(equal(k, 0, 0), jump(1)), 1, 1);
            m.run(1);
            for (int p = 0; p < 4; p++) {
                m.lanes("d is " + k, 0, 0, PREDICATE + p, p == (k & 3) ? 1 : 0);
            }
            // Predicate 1 alone is true.
            Mill read = launched(mill(equal(1, 0, 0), w(34, 2, k, 1, 0), w(34, 3, 1, k, 0), w(72, 4, k, 0, 0), jump(4)), 1, 1);
            read.run(4);
            read.lanes("a is " + k, 0, 0, PREDICATE + 2, (k & 3) == 1 ? 1 : 0);
            read.lanes("b is " + k, 0, 0, PREDICATE + 3, (k & 3) == 1 ? 1 : 0);
            read.lanes("a of 72 is " + k, 0, 0, 4, (k & 3) == 1 ? 1 : 0);
        }
    }

    /** d of one thread whose registers 1 and 2 are x and y; the word goes in cycle 2. */
    private static void value(int op, int x, int y, int n, int want) {
        Mill m = launched(mill(put(1, x), put(2, y), w(op, 3, 1, 2, n), jump(3)), 1, 1);
        m.run(3);
        m.lanes("op " + op + " of " + x + " and " + y + ", n is " + n, 0, 0, 3, want);
        m.lanes("a stays", 0, 0, 1, x);
        m.lanes("b stays", 0, 0, 2, y);
    }

    private static void intsWrap() {
        sentence(WORD, "ints wrap");
        value(4, MAX, 1, 0, MIN);
        value(4, MIN, -1, 0, MAX);
        value(4, MIN, MIN, 0, 0);
        value(5, MIN, 1, 0, MAX);
        value(5, MAX, -1, 0, MIN);
        value(5, 0, MIN, 0, MIN);
        value(6, 65536, 65536, 0, 0);
        value(6, MAX, 2, 0, -2);
        value(6, MIN, -1, 0, MIN);
        value(18, MAX, 0, 1, MIN);
        value(18, MIN, 0, -1, MAX);
        value(19, MAX, 0, MAX, 1);
        value(19, MIN, 0, -1, MIN);
        for (int op : new int[] {54, 58}) {
            Mill m = mill(put(1, 1), put(2, MAX), w(ofShared(op) ? 53 : 51, 0, 0, 2, 8), w(op, 3, 0, 1, 8),
                w(op, 4, 0, 1, 8), jump(5));
            launched(m, 1, 1).run(100);
            m.lanes("op " + op + " found the greatest int", 0, 0, 3, MAX);
            m.lanes("op " + op + " made it the least one", 0, 0, 4, MIN);
        }
    }

    private static void addressesWrap() {
        sentence(WORD, "ints wrap");
        for (int op = 50; op <= 59; op++) {
            int[][] sums = {{MIN, MIN, 0}, {MAX, MIN + 9, 8}, {-1, 8, 7}, {9, -1, 8}, {MIN, MIN + 63, 63}};
            for (int[] s : sums) {
                Mill m = mill(put(1, s[0]), put(2, 6), w(op, 3, 1, 2, s[1]), jump(3));
                m.set(s[2], 5);
                due("op " + op + " of " + s[0] + " + " + s[1], launched(m, 1, 1).run(30), 1);
                if (op == 50) {
                    m.lanes("it is int " + s[2], 0, 0, 3, 5);
                } else if (op == 51 || op == 56) {
                    due("it is int " + s[2], m.global(s[2]), 6);
                } else if (op == 53 || op == 59) {
                    due("it is int " + s[2], m.shared(0, s[2]), 6);
                }
            }
        }
    }

    private static void theThreadEnds() {
        sentence(WORD, "0 the THREAD ends");
        Mill m = launched(mill(about(1, 4), equal(0, 1, 0), on(0, END), put(2, 5), jump(4)), 1, 4);
        m.upTo(3);
        due("one has ended", m.slot(0, 0, 2), 1);
        m.upTo(20);
        m.lanes("it does nothing any more", 0, 0, 2, 0, 5, 5, 5);
        m.lanes("its registers stay", 0, 0, 1, 0, 1, 2, 3);
        m.lanes("and its place", 0, 0, PLACE, 3, 4, 4, 4);
        due("one has ended yet", m.slot(0, 0, 2), 1);
        Mill turns = launched(mill(about(1, 4), equal(0, 1, 0), equal(1, 1, 1), on(0, END), on(1, END), put(2, 5), jump(6)), 1, 4);
        turns.upTo(4);
        due("lane 0 has ended", turns.slot(0, 0, 2), 1);
        turns.upTo(7);
        due("and lane 1", turns.slot(0, 0, 2), 2);
        turns.lanes("neither does anything any more", 0, 0, 2, 0, 0, 5, 5);
    }

    private static void placeOfOneThatWaits() {
        sentence(WORD, "1 it waits at the BARRIER (its PLACE is the next one already)");
        Mill m = launched(mill(WAIT, jump(1)), 1, 5);
        m.run(1);
        due("four wait", m.slot(0, 0, 3), 4);
        m.lanes("their place", 0, 0, PLACE, 1, 1, 1, 1);
        m.lanes("the other one has not come yet", 0, 1, PLACE, 0);
    }

    private static void barrierOfAll() {
        sentence(WORD, "when all THREADS of the BLOCK that have not ended wait there, none does any more, at once");
        Mill one = launched(mill(WAIT, END), 1, 1);
        one.run(1);
        due("one thread alone does not wait", one.slot(0, 0, 3), 0);
        due("it ends in the next cycle", one.run(1), 2);
        Mill warp = launched(mill(WAIT, END), 1, 4);
        warp.run(1);
        due("nor does one warp alone", warp.slot(0, 0, 3), 0);
        Mill two = launched(mill(WAIT, END), 1, 5);
        two.run(1);
        due("four wait for the fifth", two.slot(0, 0, 3), 4);
        two.run(1);
        due("none waits", two.slot(0, 0, 3), 0);
        due("none waits", two.slot(0, 1, 3), 0);
        due("both end in the next two cycles", two.run(2), 2);
        Mill but = launched(mill(about(1, 4), equal(0, 1, 3), off(0, WAIT), jump(3)), 1, 4);
        but.run(100);
        due("three of four wait on and on", but.slot(0, 0, 3), 3);
        // Lane 0 waits behind place 2, the others behind place 10.
        Mill apart = mill(about(1, 4), equal(0, 1, 0), on(0, WAIT), off(0, jump(10)), jump(4));
        kernelAt(apart, 10, WAIT, jump(11));
        launched(apart, 1, 4);
        apart.upTo(4);
        due("lane 0 waits", apart.slot(0, 0, 3), 1);
        apart.run(1);
        due("none waits, wherever they came to the barrier", apart.slot(0, 0, 3), 0);
        apart.lanes("lane 0 is at 3 yet", 0, 0, PLACE, 3, 11, 11, 11);
    }

    private static void barrierOnceMore() {
        sentence(WORD, "none does any more, at once");
        // The next barrier waits for all once more.
        Mill m = launched(mill(WAIT, WAIT, WAIT, END), 1, 5);
        int[] waiting = {4, 0, 4, 0, 4, 0};
        for (int want : waiting) {
            m.run(1);
            due("warp 0 behind " + m.state(1) + " cycles", m.slot(0, 0, 3), want);
            due("warp 1", m.slot(0, 1, 3), 0);
        }
        due("both end", m.run(2), 2);
        // Lanes come to the barrier one behind the other; lane 3 never does.
        Mill one = launched(mill(about(1, 4), equal(0, 1, 0), equal(1, 1, 1), equal(2, 1, 2), on(0, WAIT), on(1, WAIT), on(2, WAIT),
            jump(7)), 1, 4);
        one.upTo(4);
        for (int want = 1; want <= 3; want++) {
            one.run(1);
            due("lanes that wait", one.slot(0, 0, 3), want);
        }
        one.run(20);
        due("all three wait yet", one.slot(0, 0, 3), 3);
        one.lanes("lane 3 alone goes on", 0, 0, PLACE, 5, 6, 7, 7);
    }

    private static void barrierOfTheBlock() {
        sentence(WORD, "when all THREADS of the BLOCK");
        // Block 0 has one warp, and waits for none of block 1.
        Mill m = launched(sized(4, 2, 1, about(1, 1), equal(0, 1, 0), on(0, WAIT), jump(3)), 2, 4);
        m.upTo(5);
        m.lanes("block 0 has come to it", 0, 0, PLACE, 3, 3, 3, 3);
        due("and does not wait", m.slot(0, 0, 3), 0);
        // Two blocks of two warps each: the second warp of block 0 lets block 0 on, not block 1.
        Mill two = launched(sized(1, 4, 1, WAIT, jump(1)), 2, 2);
        int[][] waiting = {{1, 0, 0, 0}, {0, 0, 0, 0}, {0, 0, 1, 0}, {0, 0, 0, 0}};
        for (int[] want : waiting) {
            two.run(1);
            for (int s = 0; s < 4; s++) {
                due("slot " + s, two.slot(0, s, 3), want[s]);
            }
        }
    }

    private static void barrierWhenOneEnds() {
        sentence(WORD, "(also when one ends)");
        Mill m = launched(mill(about(1, 4), equal(0, 1, 3), off(0, WAIT), on(0, END), jump(4)), 1, 4);
        m.upTo(3);
        due("three wait", m.slot(0, 0, 3), 3);
        m.run(1);
        due("the fourth ends: none waits", m.slot(0, 0, 3), 0);
        due("it has ended", m.slot(0, 0, 2), 1);
        // Warp 1 ends in cycle 6.
        Mill warps = launched(sized(1, 2, 1, about(1, 5), equal(0, 1, 0), on(0, WAIT), END), 1, 2);
        warps.upTo(6);
        due("warp 0 waits", warps.slot(0, 0, 3), 1);
        warps.run(1);
        due("warp 1 ends: none waits", warps.slot(0, 0, 3), 0);
        due("warp 0 ends in the next cycle", warps.run(1), 2);
        // One that has ended ahead of it is not waited for.
        Mill before = launched(mill(about(1, 4), equal(0, 1, 3), on(0, END), WAIT, jump(4)), 1, 4);
        before.upTo(4);
        due("none waits", before.slot(0, 0, 3), 0);
        before.run(1);
        before.lanes("they go on", 0, 0, PLACE, 4, 4, 4, 3);
    }

    private static void numbersOfAThread() {
        sentence(WORD, "3 d is, by n: 0 its number in the BLOCK, 1 the BLOCK's, 2 how many THREADS a BLOCK has, "
            + "3 how many BLOCKS there are, 4 its LANE, 5 its WARP's number, 6 LANES");
        Mill most = launched(sized(32, 16, 1, about(1, 0), about(2, 2), about(3, 4), about(4, 5), about(5, 6), jump(5)), 1, 512);
        most.run(80);
        int[] last = {511, 512, 31, 15, 32};
        for (int r = 1; r <= 5; r++) {
            due("register " + r + " of the last thread", most.lane(0, 15, 31, r), last[r - 1]);
        }
        Mill least = launched(sized(1, 1, 1, about(1, 0), about(2, 2), about(3, 4), about(4, 5), about(5, 6), jump(5)), 1, 1);
        least.run(5);
        int[] only = {0, 1, 0, 0, 1};
        for (int r = 1; r <= 5; r++) {
            due("register " + r + " of the only thread", least.lane(0, 0, 0, r), only[r - 1]);
        }
        // 63 blocks of five words each go ahead of the last one.
        Mill blocks = sized(1, 1, 1, about(1, 1), about(2, 3), equal(0, 1, 63), on(0, jump(9)), END);
        kernelAt(blocks, 9, jump(9));
        launched(blocks, 64, 1);
        blocks.upTo(320);
        blocks.lanes("the last block's number", 0, 0, 1, 63);
        blocks.lanes("how many blocks there are", 0, 0, 2, 64);
    }

    private static void noOtherNumber() {
        sentence(WORD, "another n: no such WORD");
        for (int n : new int[] {-1, 7, 8, 256, MIN, MAX}) {
            Mill m = launched(mill(about(1, n)), 1, 4);
            due("n is " + n, m.run(9), 3);
            m.states("no such word", 8, 2, 0, 0, 0);
            Mill guarded = launched(mill(on(0, about(1, n))), 1, 4);
            due("n is " + n + ", and none would do it", guarded.run(9), 3);
        }
        for (int n = 0; n <= 6; n++) {
            due("n is " + n, launched(mill(about(1, n), jump(1)), 1, 4).run(9), 1);
        }
    }

    private static void sumsAndProducts() {
        sentence(WORD, "4 d = a + b. 5 a - b. 6 a * b");
        int[][] all = {{0, 0, 0, 0, 0}, {5, -3, 2, 8, -15}, {-5, -3, -8, -2, 15}, {MAX, 0, MAX, MAX, 0}, {MIN, 1, MIN + 1, MAX, MIN},
            {0, MIN, MIN, MIN, 0}, {MAX, MAX, -2, 0, 1}, {MIN, MIN, 0, 0, 0}};
        for (int[] c : all) {
            value(4, c[0], c[1], 5, c[2]);
            value(5, c[0], c[1], 5, c[3]);
            value(6, c[0], c[1], 5, c[4]);
        }
    }

    private static void bitByBit() {
        sentence(WORD, "9 a and b. 10 or. 11 exclusive or");
        int[][] all = {{12, 10, 8, 14, 6}, {-1, 0, 0, -1, -1}, {-1, -1, -1, -1, 0}, {MIN, MAX, 0, -1, -1}, {MIN, -1, MIN, -1, MAX}};
        for (int[] c : all) {
            value(9, c[0], c[1], 5, c[2]);
            value(10, c[0], c[1], 5, c[3]);
            value(11, c[0], c[1], 5, c[4]);
        }
    }

    private static void quotients() {
        sentence(WORD, "7 a / b (towards 0; the least int by -1 is itself)");
        int[][] all = {{7, 2, 3}, {-7, 2, -3}, {7, -2, -3}, {-7, -2, 3}, {MIN, -1, MIN}, {MIN, 1, MIN}, {MAX, -1, -MAX},
            {1, MAX, 0}, {-1, MAX, 0}, {MIN, MAX, -1}, {MAX, MIN, 0}, {MIN, MIN, 1}, {0, -5, 0}, {MIN, 2, MIN / 2}};
        for (int[] q : all) {
            value(7, q[0], q[1], 5, q[2]);
        }
    }

    private static void rests() {
        sentence(WORD, "8 the rest (with the sign of a)");
        int[][] all = {{7, 2, 1}, {-7, 2, -1}, {7, -2, 1}, {-7, -2, -1}, {MIN, -1, 0}, {MIN, 1, 0}, {MIN, MAX, -1},
            {MAX, MIN, MAX}, {6, 3, 0}, {-6, 3, 0}, {0, -5, 0}, {MIN, MIN, 0}, {-1, MIN, -1}};
        for (int[] q : all) {
            value(8, q[0], q[1], 5, q[2]);
        }
    }

    private static void shifts() {
        sentence(WORD, "12 a shifted left by b's lowest 5 bits");
        int[][] left = {{3, 0, 3}, {1, 31, MIN}, {1, 32, 1}, {3, 33, 6}, {1, -1, MIN}, {5, MIN, 5}, {2, 31, 0}};
        for (int[] s : left) {
            value(12, s[0], s[1], 5, s[2]);
        }
        sentence(WORD, "13 right, without sign");
        int[][] right = {{-1, 0, -1}, {-1, 31, 1}, {-1, 32, -1}, {-1, 33, MAX}, {MIN, -1, 1}, {MIN, 1, 1 << 30}, {MAX, 31, 0}};
        for (int[] s : right) {
            value(13, s[0], s[1], 5, s[2]);
        }
        sentence(WORD, "14 right, with it");
        int[][] signed = {{-1, 31, -1}, {MIN, 31, -1}, {MIN, 32, MIN}, {MIN, 33, MIN / 2}, {MAX, 31, 0}, {-2, -1, -1}, {-2, 0, -2}};
        for (int[] s : signed) {
            value(14, s[0], s[1], 5, s[2]);
        }
    }

    private static void lesserAndGreater() {
        sentence(WORD, "15 the lesser one. 16 the greater one");
        int[][] all = {{MIN, MAX}, {-1, 0}, {-1, 1}, {MIN, 0}, {0, MAX}, {4, 4}};
        for (int[] p : all) {
            value(15, p[0], p[1], 5, p[0]);
            value(15, p[1], p[0], 5, p[0]);
            value(16, p[0], p[1], 5, p[1]);
            value(16, p[1], p[0], 5, p[1]);
        }
    }

    private static void upperInts() {
        sentence(WORD, "17 the upper int of the product as a long");
        int[][] all = {{MIN, MIN, 0x40000000}, {MAX, MAX, 0x3fffffff}, {MIN, MAX, 0xc0000000}, {-1, 1, -1}, {-1, -1, 0},
            {65536, 65536, 1}, {65535, 65537, 0}, {-65536, 65536, -1}, {0, MIN, 0}};
        for (int[] p : all) {
            value(17, p[0], p[1], 5, p[2]);
        }
    }

    private static void constants() {
        sentence(WORD, "2 d is n");
        for (int n : new int[] {0, -1, MIN, MAX}) {
            value(2, 1, 2, n, n);
        }
        sentence(WORD, "18 a + n. 19 a * n. 20 a and n");
        for (int n : new int[] {0, 1, -1, MIN, MAX}) {
            value(18, 3, 2, n, 3 + n);
            value(19, 3, 2, n, 3 * n);
            value(20, -2, 2, n, -2 & n);
        }
    }

    private static void choice() {
        sentence(WORD, "21 a, if PREDICATE n & 3 is true, else b");
        for (int p = 0; p < 4; p++) {
            for (int n : new int[] {0, 1, 2, 3, 4, 5, 6, 7, -1, -4, MIN, MAX}) {
                Mill m = launched(mill(put(1, 11), put(2, 22), equal(p, 0, 0), w(21, 3, 1, 2, n), jump(4)), 1, 1);
                m.run(4);
                m.lanes("predicate " + p + " alone is true, n is " + n, 0, 0, 3, (n & 3) == p ? 11 : 22);
            }
        }
    }

    private static void holds(int op, int x, int y, int n, int want) {
        Mill m = launched(mill(put(1, x), put(2, y), w(op, 3, 1, 2, n), jump(3)), 1, 1);
        m.run(3);
        m.lanes("op " + op + " of " + x + " and " + y + ", n is " + n, 0, 0, PREDICATE + 3, want);
    }

    private static void comparisons() {
        sentence(WORD, "30 pd is whether a < b. 31 a = b. 32 a < n. 33 a = n");
        int[][] all = {{4, 5, 1, 0}, {5, 5, 0, 1}, {6, 5, 0, 0}, {MIN, MAX, 1, 0}, {MAX, MIN, 0, 0}, {-1, 0, 1, 0}, {0, -1, 0, 0},
            {MIN, MIN, 0, 1}, {MAX, MAX, 0, 1}, {MIN, 0, 1, 0}, {MIN, MIN + 1, 1, 0}};
        for (int[] c : all) {
            holds(30, c[0], c[1], c[1] + 3, c[2]);
            holds(31, c[0], c[1], c[1] + 3, c[3]);
            holds(32, c[0], c[1] + 3, c[1], c[2]);
            holds(33, c[0], c[1] + 3, c[1], c[3]);
        }
    }

    private static void truths() {
        sentence(WORD, "34 pd is pa and pb. 35 or. 36 not pa");
        int[] and = {0, 0, 0, 1};
        int[] or = {0, 1, 1, 1};
        int[] not = {1, 1, 0, 0};
        for (int op = 34; op <= 36; op++) {
            // Lane k: predicate 1 is bit 1 of k, predicate 2 is bit 0.
            Mill m = launched(mill(about(1, 4), w(20, 2, 1, 0, 2), equal(1, 2, 2), w(20, 3, 1, 0, 1), equal(2, 3, 1),
                w(op, 3, 1, 2, 0), w(op, 1, 1, 2, 0), jump(7)), 1, 4);
            m.run(7);
            int[] want = op == 34 ? and : op == 35 ? or : not;
            m.lanes("op " + op, 0, 0, PREDICATE + 3, want);
            m.lanes("op " + op + " onto pa", 0, 0, PREDICATE + 1, want);
        }
    }

    private static void jumps() {
        sentence(WORD, "40 on at PLACE n. 41 d is the next PLACE; on at n. 42 on at PLACE a");
        for (int place : new int[] {0, 1, 127, 128, -1, MIN, MAX}) {
            Mill n = launched(mill(jump(place)), 1, 1);
            n.run(1);
            n.lanes("40", 0, 0, PLACE, place);
            Mill link = launched(mill(w(41, 5, 0, 0, place)), 1, 1);
            link.run(1);
            link.lanes("41", 0, 0, PLACE, place);
            link.lanes("d of 41", 0, 0, 5, 1);
            Mill a = launched(mill(put(5, place), w(42, 9, 5, 9, 9)), 1, 1);
            a.run(2);
            a.lanes("42", 0, 0, PLACE, place);
        }
        Mill last = mill(jump(127));
        last.word(127, w(41, 5, 0, 0, 3));
        last.word(3, jump(3));
        launched(last, 1, 1).run(3);
        last.lanes("d of 41 at the last place", 0, 0, 5, 128);
        last.lanes("41 at the last place", 0, 0, PLACE, 3);
    }

    private static void intsOfGlobalMemory() {
        sentence(WORD, "50 d is int a + n of GLOBAL MEMORY");
        for (int ints : new int[] {512, 4096}) {
            int[][] all = {{0, 0, 0}, {0, ints - 1, ints - 1}, {ints - 1, 0, ints - 1}, {ints, -1, ints - 1}, {-1, 1, 0}};
            for (int[] s : all) {
                Mill m = new Mill();
                m.sizes(4, 4, 2, 4, 2, ints);
                m.set(s[2], 77);
                // b does not count for 50.
                kernel(m, put(1, s[0]), put(3, 4), w(50, 2, 1, 3, s[1]), jump(3));
                due("int " + s[2] + " is one", launched(m, 1, 1).run(30), 1);
                m.lanes(s[0] + " + " + s[1] + " of " + ints, 0, 0, 2, 77);
                due("50 leaves it as it is", m.global(s[2]), 77);
            }
        }
    }

    private static void theLastLaneStays() {
        sentence(WORD, "51 b goes there (of several LANES the last one's stays)");
        for (int op : new int[] {51, 53}) {
            Mill all = launched(mill(about(1, 4), add(2, 1, 10), w(op, 0, 0, 2, 8), jump(3)), 1, 4);
            all.run(50);
            due("op " + op + " of lanes 0 to 3", op == 51 ? all.global(8) : all.shared(0, 8), 13);
            Mill two = launched(mill(about(1, 4), add(2, 1, 10), less(0, 1, 2), on(0, w(op, 0, 0, 2, 8)), jump(4)), 1, 4);
            two.run(50);
            due("op " + op + " of lanes 0 and 1", op == 51 ? two.global(8) : two.shared(0, 8), 11);
        }
    }

    private static void sharedAtOnce() {
        sentence(WORD, "52, 53 likewise, of SHARED MEMORY, at once");
        Mill m = launched(mill(put(1, 9), w(53, 0, 0, 1, 63), w(52, 2, 0, 0, 63), jump(3)), 1, 1);
        m.upTo(2);
        due("written in its cycle", m.shared(0, 63), 9);
        // 53 goes in cycle 1, L is 3, so 52 goes in cycle 4.
        m.upTo(4);
        m.lanes("not read yet", 0, 0, 2, 0);
        m.run(1);
        m.lanes("read in its cycle", 0, 0, 2, 9);
        due("nothing is ever pending", m.state(19), 0);
        // b does not count for 52.
        Mill read = launched(mill(put(1, 9), put(3, 4), w(53, 0, 0, 1, 63), w(52, 2, 0, 3, 63), jump(4)), 1, 1);
        read.run(20);
        read.lanes("read", 0, 0, 2, 9);
        due("52 leaves it as it is", read.shared(0, 63), 9);
    }

    /** All four lanes ask for int 8 of global memory, where 100 is; register 1 is 1 .. 4. */
    private static Mill fourAsk(int op, int old) {
        Mill m = mill(about(1, 4), add(1, 1, 1), put(3, old), w(op, 3, 0, 1, 8), jump(4));
        m.set(8, old);
        launched(m, 1, 4).run(60);
        return m;
    }

    private static void laneByLane() {
        sentence(WORD, "Of GLOBAL MEMORY, LANE by LANE: 54 d is the int as it is, which then grows by b");
        Mill sum = fourAsk(54, 100);
        sum.lanes("each finds what those before it left", 0, 0, 3, 100, 101, 103, 106);
        due("the sum", sum.global(8), 110);
        sentence(WORD, "56 which then is b");
        Mill last = fourAsk(56, 100);
        last.lanes("each finds what the one before it left", 0, 0, 3, 100, 1, 2, 3);
        due("the last one's", last.global(8), 4);
    }

    private static void greaterOne() {
        sentence(WORD, "55 which then is the greater one of it and b");
        int[][] all = {{5, 5, 5}, {5, 4, 5}, {5, 6, 6}, {MIN, MAX, MAX}, {MAX, MIN, MAX}, {-1, 0, 0}, {0, -1, 0}, {MIN, MIN, MIN}};
        for (int[] p : all) {
            Mill m = mill(put(1, p[1]), w(55, 2, 0, 1, 8), jump(2));
            m.set(8, p[0]);
            launched(m, 1, 1).run(30);
            due("of " + p[0] + " and " + p[1], m.global(8), p[2]);
            m.lanes("d is as it was", 0, 0, 2, p[0]);
        }
        Mill four = fourAsk(55, 2);
        four.lanes("each finds what those before it left", 0, 0, 3, 2, 2, 2, 3);
        due("the greatest one", four.global(8), 4);
    }

    private static void ifItWasWhatDWas() {
        sentence(WORD, "57 which then is b, if it was what d was");
        Mill four = fourAsk(57, 100);
        four.lanes("lane 0 alone finds what it sought", 0, 0, 3, 100, 1, 1, 1);
        due("lane 0's", four.global(8), 1);
        Mill not = mill(put(1, 7), put(3, 4), w(57, 3, 0, 1, 8), jump(3));
        not.set(8, 5);
        launched(not, 1, 1).run(30);
        not.lanes("d is what is there", 0, 0, 3, 5);
        due("it stays", not.global(8), 5);
    }

    private static void sharedLaneByLane() {
        sentence(WORD, "58, 59 as 54, 56, of SHARED, LANE by LANE, too");
        int[][] want = {{58, 0, 1, 3, 6, 10}, {59, 0, 1, 2, 3, 4}};
        for (int[] o : want) {
            Mill m = launched(mill(about(1, 4), add(1, 1, 1), w(o[0], 3, 0, 1, 63), jump(3)), 1, 4);
            m.upTo(3);
            m.lanes("op " + o[0] + ", in its cycle", 0, 0, 3, o[1], o[2], o[3], o[4]);
            due("op " + o[0] + " leaves", m.shared(0, 63), o[5]);
        }
    }

    /** Four lanes; those below `doing` do the words, predicate 1 is true in those from `from` on. */
    private static void vote(int doing, int from, int any, int all, int many) {
        Mill m = launched(mill(about(1, 4), less(0, 1, doing), less(1, 1, from), w(36, 1, 1, 0, 0), put(7, 99),
            on(0, w(70, 2, 1, 0, 0)), on(0, w(71, 3, 1, 0, 0)), on(0, w(72, 7, 1, 0, 0)), jump(8)), 1, 4);
        m.run(20);
        for (int lane = 0; lane < 4; lane++) {
            String what = doing + " lanes do it, true from lane " + from + " on, lane " + lane;
            boolean does = lane < doing;
            due("70: " + what, m.lane(0, 0, lane, PREDICATE + 2), does ? any : 0);
            due("71: " + what, m.lane(0, 0, lane, PREDICATE + 3), does ? all : 0);
            due("72: " + what, m.lane(0, 0, lane, 7), does ? many : 99);
        }
    }

    private static void votes() {
        sentence(WORD, "70 pd is whether pa is true in one of the LANES that DO it. 71 in all. 72 d is in how many");
        vote(4, 0, 1, 1, 4);
        vote(4, 1, 1, 0, 3);
        vote(4, 3, 1, 0, 1);
        vote(4, 4, 0, 0, 0);
        vote(3, 3, 0, 0, 0);
        vote(3, 2, 1, 0, 1);
        vote(1, 0, 1, 1, 1);
        vote(1, 1, 0, 0, 0);
        vote(0, 0, 0, 0, 0);
        Mill most = launched(sized(32, 1, 1, w(36, 1, 1, 0, 0), w(72, 2, 1, 0, 0), w(71, 1, 1, 0, 0), jump(3)), 1, 32);
        most.run(4);
        due("all of 32 lanes", most.lane(0, 0, 31, 2), 32);
        due("all of 32 lanes", most.lane(0, 0, 31, PREDICATE + 1), 1);
        Mill few = launched(mill(w(36, 1, 1, 0, 0), w(72, 2, 1, 0, 0), w(71, 2, 1, 0, 0), jump(3)), 1, 3);
        few.run(4);
        few.lanes("a lane without a thread does not count", 0, 0, 2, 3, 3, 3);
        few.lanes("a lane without a thread does not count", 0, 0, PREDICATE + 2, 1, 1, 1);
    }

    private static void exchange() {
        sentence(WORD, "73 d is a of LANE (its own, exclusive or n & (LANES - 1))");
        int[] from = {0, 1, 2, 3, 4, 7, -1, -4, MIN, MAX};
        for (int n : from) {
            Mill m = launched(mill(about(1, 4), add(1, 1, 10), w(73, 2, 1, 0, n), w(73, 1, 1, 0, n), jump(4)), 1, 4);
            m.run(4);
            int x = n & 3;
            m.lanes("n is " + n, 0, 0, 2, 10 + (0 ^ x), 10 + (1 ^ x), 10 + (2 ^ x), 10 + (3 ^ x));
            m.lanes("onto a, as it was, n is " + n, 0, 0, 1, 10 + (0 ^ x), 10 + (1 ^ x), 10 + (2 ^ x), 10 + (3 ^ x));
        }
        Mill one = launched(sized(1, 1, 1, put(1, 6), w(73, 2, 1, 0, -1), jump(2)), 1, 1);
        one.run(2);
        one.lanes("one lane has its own", 0, 0, 2, 6);
        Mill most = launched(sized(32, 1, 1, about(1, 4), w(73, 2, 1, 0, 31), jump(2)), 1, 32);
        most.run(2);
        due("lane 0 of 32", most.lane(0, 0, 0, 2), 31);
        due("lane 31 of 32", most.lane(0, 0, 31, 2), 0);
    }

    private static void exchangeWithOthers() {
        sentence(WORD, "if that DOES it (a as it was), else its own");
        Mill few = launched(mill(about(1, 4), add(1, 1, 10), w(73, 2, 1, 0, 1), jump(3)), 1, 3);
        few.run(3);
        few.lanes("lane 3 has no thread", 0, 0, 2, 11, 10, 12, NO_SUCH);
        Mill guard = launched(mill(about(1, 4), less(0, 1, 3), add(1, 1, 10), on(0, w(73, 2, 1, 0, 1)), jump(4)), 1, 4);
        guard.run(4);
        guard.lanes("lane 3's guard does not hold", 0, 0, 2, 11, 10, 12, 0);
        Mill ended = launched(mill(about(1, 4), equal(0, 1, 3), on(0, END), add(1, 1, 10), w(73, 2, 1, 0, 1), jump(5)), 1, 4);
        ended.run(5);
        ended.lanes("lane 3 has ended", 0, 0, 2, 11, 10, 12, 0);
        Mill away = mill(about(1, 4), equal(0, 1, 3), add(1, 1, 10), on(0, jump(9)), w(73, 2, 1, 0, 1), jump(5));
        away.word(9, jump(9));
        launched(away, 1, 4).run(5);
        away.lanes("lane 3 is at another place", 0, 0, 2, 11, 10, 12, 0);
    }

    private static boolean among(int op, int... ranges) {
        for (int k = 0; k < ranges.length; k += 2) {
            if (op >= ranges[k] && op <= ranges[k + 1]) {
                return true;
            }
        }
        return false;
    }

    /** What the first word writes is there in cycle when only; does the second one go in cycle 1 already? */
    private static void mustBeThere(String what, boolean needed, int when, long first, long second) {
        Mill m = launched(mill(first, second, jump(2)), 1, 1);
        m.run(2);
        // A trap counts: 7 and 8 divide by 0 here.
        due(what + " in cycle 1", m.state(2) + (m.state(8) != 0 ? 1 : 0), needed ? 1 : 2);
        if (needed) {
            m.upTo(when);
            due(what + " ahead of cycle " + when, m.state(2), 1);
            m.run(1);
            due(what + " in cycle " + when, m.state(2) + (m.state(8) != 0 ? 1 : 0), 2);
        }
    }

    private static void readsA() {
        sentence(WORD, "a: 4 to 21, 30 to 33, 42, 50 to 59, 73");
        for (int op : OPS) {
            boolean reads = among(op, 4, 21, 30, 33, 42, 42, 50, 59, 73, 73);
            mustBeThere("op " + op, reads, 3, times(5, 0, 0), w(op, 1, 5, 2, 6));
        }
    }

    private static void readsB() {
        sentence(WORD, "b: 4 to 17, 21, 30, 31, 51, 53 to 59");
        for (int op : OPS) {
            boolean reads = among(op, 4, 17, 21, 21, 30, 31, 51, 51, 53, 59);
            mustBeThere("op " + op, reads, 3, times(5, 0, 0), w(op, 1, 2, 5, 6));
        }
    }

    private static void readsPredicates() {
        sentence(WORD, "d: 57; PREDICATES: 21 n & 3; 34, 35 pa, pb; 36, 70, 71, 72 pa");
        long late = w(70, 1, 0, 0, 0);
        mustBeThere("op 57, d", true, 3, times(5, 0, 0), w(57, 5, 1, 2, 6));
        for (int op : OPS) {
            mustBeThere("op " + op + ", n & 3", op == 21, 2, late, w(op, 2, 2, 2, 5));
            mustBeThere("op " + op + ", pa", among(op, 34, 36, 70, 72), 2, late, w(op, 2, 13, 2, 6));
            mustBeThere("op " + op + ", pb", among(op, 34, 35), 2, late, w(op, 2, 2, 13, 6));
        }
    }

    private static void writesRegisters() {
        sentence(WORD, "Writes d: 2 to 21, 41, 50, 52, 54 to 59, 72, 73");
        for (int op : OPS) {
            boolean writes = among(op, 2, 21, 41, 41, 50, 50, 52, 52, 54, 59, 72, 73);
            mustBeThere("op " + op, writes, 3, times(5, 0, 0), w(op, 5, 2, 3, 6));
            Mill m = launched(mill(put(2, 1), w(op, 5, 2, 2, 6), jump(2)), 1, 2);
            m.run(2);
            due("op " + op + ": a tick of d", m.slot(0, 0, REGISTER_TICK + 5) > 0 ? 1 : 0, writes ? 1 : 0);
            writesNoOther(op, writes);
        }
    }

    /** All registers are 21, and so are n and the int for which the word may ask; lane 0 alone does it. */
    private static void writesNoOther(int op, boolean writes) {
        Mill m = new Mill();
        m.set(42, 7);
        for (int r = 0; r < 16; r++) {
            m.word(r, put(r, 21));
        }
        kernelAt(m, 16, about(1, 4), equal(1, 1, 0), put(1, 21), w(53, 0, 0, 2, 21),
            on(1, w(op, 5, 2, 3, op == 3 ? 2 : 21)), jump(21));
        launched(m, 1, 2).run(60);
        for (int r = 0; r < 16; r++) {
            due("op " + op + ", register " + r + " of one that does not do it", m.lane(0, 0, 1, r), 21);
            if (r != 5 || !writes) {
                due("op " + op + ", register " + r, m.lane(0, 0, 0, r), 21);
            }
        }
    }

    private static void writesPredicates() {
        sentence(WORD, "pd: 30 to 36, 70, 71");
        for (int op : OPS) {
            boolean writes = among(op, 30, 36, 70, 71);
            mustBeThere("op " + op, writes, 2, w(70, 1, 0, 0, 0), w(op, 5, 2, 2, 6));
            Mill m = launched(mill(put(2, 1), w(op, 5, 2, 2, 6), jump(2)), 1, 2);
            m.run(2);
            due("op " + op + ": a tick of pd", m.slot(0, 0, PREDICATE_TICK + 1) > 0 ? 1 : 0, writes ? 1 : 0);
            for (int p = 0; p < 4; p++) {
                if (p != 1 || !writes) {
                    m.lanes("op " + op + ", predicate " + p, 0, 0, PREDICATE + p, op == 0 ? NO_SUCH : 0);
                }
            }
        }
    }
}
