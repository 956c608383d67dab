/** Every op of a word on its own: what it does, its guard, its ticks, and its traps. */
public final class WordsTest {
    private static final int MIN = Integer.MIN_VALUE;
    private static final int MAX = Integer.MAX_VALUE;

    public static void main(String[] args) {
        arithmetic();
        numbersOfAThread();
        choosing();
        predicates();
        jumps();
        guards();
        votes();
        exchange();
        waits();
        whatMustBeThere();
        whatIsNoWord();
        traps();
        trapOfTheLeastLane();
        Check.end();
    }

    /** d of one thread behind: 1 is x, 2 is y, then the word; it goes in cycle 2. */
    private static void value(int op, int x, int y, int n, int want, int wait) {
        WarpMill m = new WarpMill();
        Check.kernel(m, Check.w(2, 1, 0, 0, x), Check.w(2, 2, 0, 0, y), Check.w(op, 3, 1, 2, n), Check.w(40, 0, 0, 0, 3));
        m.launch(1, 1);
        m.run(3);
        String where = "op " + op + " of " + x + ", " + y + ", n " + n;
        Check.lanes(where, m, 0, 0, 3, want);
        Check.lanes(where, m, 0, 0, 1, x);
        Check.lanes(where, m, 0, 0, 2, y);
        Check.lanes(where, m, 0, 0, 16, 3);
        Check.due(where + ": tick", m.slot(0, 0, 5 + 3), 2 + wait);
        Check.due(where + ": tick of a", m.slot(0, 0, 5 + 1), 1);
        Check.due(where + ": divider", m.unit(0, 0), op == 7 || op == 8 ? 10 : 0);
    }

    private static void arithmetic() {
        value(2, 1, 1, -77, -77, 1);
        value(4, MAX, 1, 5, MIN, 1);
        value(5, MIN, 1, 5, MAX, 1);
        value(6, 65536, 65537, 5, 65536, 3);
        value(7, -7, 2, 5, -3, 8);
        value(7, 7, -2, 5, -3, 8);
        value(7, MIN, -1, 5, MIN, 8);
        value(8, -7, 2, 5, -1, 8);
        value(8, 7, -2, 5, 1, 8);
        value(8, MIN, -1, 5, 0, 8);
        value(9, 12, 10, 5, 8, 1);
        value(10, 12, 10, 5, 14, 1);
        value(11, 12, 10, 5, 6, 1);
        value(12, 3, 33, 5, 6, 1);
        value(12, 1, -1, 5, MIN, 1);
        value(13, -8, 33, 5, 0x7ffffffc, 1);
        value(14, -8, 33, 5, -4, 1);
        value(15, -3, 2, 5, -3, 1);
        value(15, 2, -3, 5, -3, 1);
        value(16, -3, 2, 5, 2, 1);
        value(16, 2, -3, 5, 2, 1);
        value(17, MIN, MIN, 5, 0x40000000, 3);
        value(17, -1, 1, 5, -1, 3);
        value(17, MAX, 4, 5, 1, 3);
        value(18, MAX, 9, 1, MIN, 1);
        value(19, 65536, 9, 65536, 0, 3);
        value(19, -3, 9, 7, -21, 3);
        value(20, -1, 9, 0x0ff0, 0x0ff0, 1);
    }

    /** Threads 4 .. 5 of block 1 of 3, with 6 threads each: slots 2, 3 of unit 0. */
    private static void numbersOfAThread() {
        int[][] want = {{4, 5}, {1, 1}, {6, 6}, {3, 3}, {0, 1}, {1, 1}, {4, 4}};
        for (int n = 0; n < want.length; n++) {
            WarpMill m = new WarpMill();
            Check.kernel(m, Check.w(3, 9, 0, 0, n), Check.w(40, 0, 0, 0, 1));
            m.launch(3, 6);
            m.run(4);
            Check.lanes("op 3 with n " + n, m, 0, 3, 9, want[n]);
            Check.due("op 3: tick", m.slot(0, 3, 5 + 9), 4);
        }
    }

    private static void choosing() {
        for (int n : new int[] {0, 1, 5, -3}) {
            WarpMill m = new WarpMill();
            Check.kernel(m, Check.w(3, 1, 0, 0, 4), Check.w(2, 2, 0, 0, 50), Check.w(32, 1, 1, 0, 2),
                Check.w(21, 3, 1, 2, n), Check.w(40, 0, 0, 0, 4));
            m.launch(1, 4);
            m.run(4);
            if ((n & 3) == 1) {
                Check.lanes("op 21", m, 0, 0, 3, 0, 1, 50, 50);
            } else {
                Check.lanes("op 21", m, 0, 0, 3, 50, 50, 50, 50);
            }
            Check.due("op 21: tick", m.slot(0, 0, 5 + 3), 4);
        }
    }

    /** Four lanes, 1 the lane, 2 is 2; predicates 0: lane < 2, 1: lane = 2; then the word. */
    private static void predicate(int op, int d, int a, int b, int n, int... want) {
        WarpMill m = new WarpMill();
        Check.kernel(m, Check.w(3, 1, 0, 0, 4), Check.w(2, 2, 0, 0, 2), Check.w(30, 0, 1, 2, 0), Check.w(31, 1, 1, 2, 0),
            Check.w(op, d, a, b, n), Check.w(40, 0, 0, 0, 5));
        m.launch(1, 4);
        m.run(5);
        String where = "op " + op + " d " + d + " a " + a + " b " + b + " n " + n;
        Check.lanes(where, m, 0, 0, 17 + (d & 3), want);
        Check.due(where + ": tick", m.slot(0, 0, 21 + (d & 3)), op >= 70 ? 6 : 5);
    }

    private static void predicates() {
        predicate(30, 2, 1, 2, 0, 1, 1, 0, 0);
        predicate(30, 2, 2, 1, 0, 0, 0, 0, 1);
        predicate(31, 2, 1, 2, 0, 0, 0, 1, 0);
        predicate(32, 2, 1, 0, 1, 1, 0, 0, 0);
        predicate(33, 3, 1, 0, 3, 0, 0, 0, 1);
        predicate(34, 3, 0, 1, 0, 0, 0, 0, 0);
        predicate(34, 3, 0, 0, 0, 1, 1, 0, 0);
        predicate(35, 3, 0, 1, 0, 1, 1, 1, 0);
        predicate(36, 3, 0, 0, 0, 0, 0, 1, 1);
        predicate(36, 0, 0, 0, 0, 0, 0, 1, 1);
        // Only the lowest two bits of d, a and b count for predicates.
        predicate(35, 15, 12, 9, 0, 1, 1, 1, 0);
        predicate(30, 6, 1, 2, 0, 1, 1, 0, 0);
        predicate(70, 2, 1, 0, 0, 1, 1, 1, 1);
        predicate(70, 2, 3, 0, 0, 0, 0, 0, 0);
        predicate(71, 2, 0, 0, 0, 0, 0, 0, 0);
        predicate(71, 3, 3, 0, 0, 0, 0, 0, 0);
    }

    private static void jumps() {
        WarpMill m = new WarpMill();
        Check.kernel(m, Check.w(3, 1, 0, 0, 4), Check.w(32, 0, 1, 0, 2), Check.guarded(8, 41, 7, 0, 0, 9),
            Check.w(18, 6, 1, 0, 4));
        m.word(4, Check.w(42, 0, 6, 0, 0));
        for (int k = 5; k < 12; k++) {
            m.word(k, Check.w(40, 0, 0, 0, k));
        }
        m.launch(1, 4);
        m.run(3);
        Check.lanes("op 41", m, 0, 0, 16, 9, 9, 3, 3);
        Check.lanes("op 41", m, 0, 0, 7, 3, 3, 0, 0);
        Check.due("op 41: tick", m.slot(0, 0, 5 + 7), 3);
        m.run(1);
        Check.lanes("the least place goes", m, 0, 0, 16, 9, 9, 4, 4);
        m.run(1);
        Check.lanes("op 42", m, 0, 0, 16, 9, 9, 6, 7);
        m.run(1);
        Check.lanes("op 40 to itself", m, 0, 0, 16, 9, 9, 6, 7);
        Check.states("jumps", m, 2, 6, 4 + 4 + 2 + 2 + 2 + 1);
        Check.states("jumps", m, 12, 1);
    }

    private static void guards() {
        for (int g = 0; g < 16; g++) {
            WarpMill m = new WarpMill();
            Check.kernel(m, Check.w(3, 1, 0, 0, 4), Check.w(32, 2, 1, 0, 2), Check.guarded(g, 2, 5, 0, 0, 9) | 0xa5000000L,
                Check.w(40, 0, 0, 0, 3));
            m.launch(1, 4);
            m.run(3);
            int low = g < 8 || g == 10 || g >= 12 && g != 14 ? 9 : 0;
            int high = g < 8 || g >= 12 ? 9 : 0;
            Check.lanes("guard " + g, m, 0, 0, 5, low, low, high, high);
            Check.lanes("guard " + g, m, 0, 0, 16, 3, 3, 3, 3);
            Check.due("guard " + g + ": tick", m.slot(0, 0, 5 + 5), 3);
            int did = (low + low + high + high) / 9;
            Check.states("guard " + g, m, 2, 3, 8 + did);
            Check.states("guard " + g, m, 12, did < 4 ? 1 : 0);
        }
    }

    private static void votes() {
        WarpMill m = new WarpMill();
        // Predicate 0: lane < 3; 1: lane = 1. Lanes 0 .. 2 vote; lane 3 keeps what it has.
        Check.kernel(m, Check.w(3, 1, 0, 0, 4), Check.w(32, 0, 1, 0, 3), Check.w(33, 1, 1, 0, 1),
            Check.guarded(8, 70, 2, 1, 0, 0), Check.guarded(8, 71, 3, 0, 0, 0), Check.guarded(8, 72, 7, 1, 0, 0),
            Check.guarded(9, 71, 1, 0, 0, 0), Check.w(72, 8, 0, 0, 0), Check.guarded(12, 72, 9, 0, 0, 0),
            Check.w(40, 0, 0, 0, 9));
        m.launch(1, 4);
        m.run(500);
        Check.lanes("op 70", m, 0, 0, 19, 1, 1, 1, 0);
        Check.lanes("op 71", m, 0, 0, 20, 1, 1, 1, 0);
        Check.lanes("op 72", m, 0, 0, 7, 1, 1, 1, 0);
        Check.lanes("op 71 of one lane", m, 0, 0, 18, 0, 1, 0, 0);
        Check.lanes("op 72 of all", m, 0, 0, 8, 3, 3, 3, 3);
        Check.lanes("op 72 of none", m, 0, 0, 9, 0, 0, 0, 0);
        // Places 0 .. 5 go in cycles 0 .. 5; 6 writes what 5 reads there; 7 and 8 don't wait for it.
        Check.due("tick of 70", m.slot(0, 0, 21 + 2), 5);
        Check.due("tick of 71", m.slot(0, 0, 21 + 3), 6);
        Check.due("tick of 72", m.slot(0, 0, 5 + 7), 7);
    }

    private static void exchange() {
        WarpMill m = new WarpMill();
        // 3 threads: lane 3 has none. Predicate 0: lane < 2.
        Check.kernel(m, Check.w(3, 1, 0, 0, 4), Check.w(18, 1, 1, 0, 10), Check.w(32, 0, 1, 0, 12), Check.w(73, 2, 1, 0, 1),
            Check.w(73, 3, 1, 0, -6), Check.guarded(8, 73, 4, 1, 0, 3), Check.w(73, 1, 1, 0, 1), Check.w(40, 0, 0, 0, 7));
        m.launch(1, 3);
        m.run(6);
        Check.lanes("op 73 with 1", m, 0, 0, 2, 11, 10, 12, Check.NO_SUCH);
        Check.lanes("op 73 with -6, that is 2", m, 0, 0, 3, 12, 11, 10);
        Check.lanes("op 73 with lanes that don't", m, 0, 0, 4, 10, 11, 0);
        Check.due("op 73: tick", m.slot(0, 0, 5 + 4), 7);
        m.run(1);
        Check.lanes("op 73 onto a", m, 0, 0, 1, 11, 10, 12);
    }

    private static void waits() {
        WarpMill m = new WarpMill();
        // 18 reads what 6 writes: cycle 3. 7 goes in cycle 4, so 8 in cycle 12; 2 in between.
        Check.kernel(m, Check.w(6, 1, 0, 0, 0), Check.w(18, 2, 1, 0, 5), Check.w(7, 3, 2, 2, 0), Check.w(2, 4, 0, 0, 1),
            Check.w(8, 5, 2, 2, 0), Check.w(40, 0, 0, 0, 5));
        m.launch(1, 1);
        int[] places = {1, 1, 1, 2, 3, 4, 4, 4, 4, 4, 4, 4, 5, 5};
        for (int cycle = 0; cycle < places.length; cycle++) {
            m.run(1);
            Check.lanes("behind cycle " + cycle, m, 0, 0, 16, places[cycle]);
        }
        Check.due("divider tick", m.unit(0, 0), 20);
        Check.due("tick of 8", m.slot(0, 0, 5 + 5), 20);
        Check.due("went", m.unit(0, 3), 6);
        // Two warps of a unit share the divider; the other unit has its own.
        WarpMill two = new WarpMill();
        two.sizes(1, 2, 2, 1, 1, 512);
        Check.kernel(two, Check.w(2, 1, 0, 0, 3), Check.w(7, 2, 1, 1, 0), Check.w(40, 0, 0, 0, 2));
        two.launch(3, 1);
        two.run(4);
        Check.due("slot 0 divided in cycle 2", two.unit(0, 0), 10);
        Check.due("the other unit in cycle 1", two.unit(1, 0), 9);
        Check.lanes("slot 1 waits for the divider", two, 0, 1, 16, 1);
        Check.upTo(two, 11);
        Check.lanes("slot 1 has divided", two, 0, 1, 16, 2);
        Check.due("slot 1 divided in cycle 10", two.unit(0, 0), 18);
    }

    /** What the word needs is not there till cycle 3 (6 writes it in cycle 0); else it goes in cycle 1. */
    private static void needs(boolean needed, long word, String what) {
        WarpMill m = new WarpMill();
        Check.kernel(m, Check.w(6, 5, 0, 0, 0), word, Check.w(40, 0, 0, 0, 2));
        m.launch(1, 1);
        m.run(3);
        Check.due(what, m.state(2) == 1 ? 1 : 0, needed ? 1 : 0);
        m.run(1);
        Check.due(what + ", in cycle 3", m.state(2), needed ? 2 : m.state(2));
        Check.due(what + ", no trap", m.state(8), 0);
    }

    private static void whatMustBeThere() {
        for (int op = 0; op <= 73; op++) {
            boolean known = op <= 21 || op >= 30 && op <= 36 || op >= 40 && op <= 42 || op >= 50 && op <= 59 || op >= 70;
            if (!known || op == 7 || op == 8) {
                continue;
            }
            boolean a = op >= 4 && op <= 21 || op >= 30 && op <= 33 || op == 42 || op >= 50 && op <= 59 || op == 73;
            boolean b = op >= 4 && op <= 17 || op == 21 || op == 30 || op == 31 || op == 51 || op >= 53 && op <= 59;
            boolean d = op >= 2 && op <= 21 || op == 41 || op == 50 || op == 52 || op >= 54 && op <= 59 || op == 72 || op == 73;
            needs(a, Check.w(op, 1, 5, 1, 2), "op " + op + " needs a");
            needs(b, Check.w(op, 1, 1, 5, 2), "op " + op + " needs b");
            needs(d, Check.w(op, 5, 1, 1, 2), "op " + op + " needs d");
            needsPredicate(op);
        }
        needs(false, Check.guarded(8, 2, 1, 5, 5, 2), "a guard needs no register");
    }

    /** Predicate 1 is not there till cycle 2 (70 writes it in cycle 0). */
    private static void needsPredicate(int op) {
        boolean pa = op == 34 || op == 35 || op == 36 || op >= 70 && op <= 72;
        boolean pb = op == 34 || op == 35;
        boolean pd = op >= 30 && op <= 36 || op == 70 || op == 71;
        predicateNeeded(pa, Check.w(op, 2, 5, 2, 2), "op " + op + " needs pa");
        predicateNeeded(pb, Check.w(op, 2, 2, 5, 2), "op " + op + " needs pb");
        predicateNeeded(pd, Check.w(op, 5, 2, 2, 2), "op " + op + " needs pd");
        predicateNeeded(op == 21, Check.w(op, 2, 2, 2, 5), "op " + op + " needs predicate n & 3");
        predicateNeeded(true, Check.guarded(13, op, 2, 2, 2, 2), "op " + op + " needs its guard");
        predicateNeeded(false, Check.guarded(5, op, 2, 2, 2, 2), "op " + op + " has no guard");
    }

    private static void predicateNeeded(boolean needed, long word, String what) {
        WarpMill m = new WarpMill();
        Check.kernel(m, Check.w(70, 1, 0, 0, 0), Check.w(40, 0, 0, 0, 2), word, Check.w(40, 0, 0, 0, 3));
        m.word(1, word);
        m.launch(1, 1);
        m.run(2);
        // n of op 3 is 5 in one of the words, else 2: each is a word.
        Check.due(what, m.state(2), needed ? 1 : 2);
    }

    private static void whatIsNoWord() {
        for (int op = 0; op < 256; op++) {
            boolean known = op <= 21 || op >= 30 && op <= 36 || op >= 40 && op <= 42 || op >= 50 && op <= 59
                || op >= 70 && op <= 73;
            // A guard that fails, on a predicate that is not there yet, and registers that are not there yet.
            noWord(!known, Check.guarded(9, op, 5, 5, 5, 3), "op " + op);
        }
        for (int n : new int[] {-1, 7, MAX, MIN, 3 + 256}) {
            noWord(true, Check.guarded(9, 3, 5, 5, 5, n), "op 3 with n " + n);
        }
        noWord(false, Check.guarded(9, 3, 5, 5, 5, 6), "op 3 with n 6");
    }

    private static void noWord(boolean traps, long word, String what) {
        WarpMill m = new WarpMill();
        Check.kernel(m, Check.w(6, 5, 0, 0, 0), Check.w(70, 1, 0, 0, 0), word);
        m.launch(1, 3);
        m.run(3);
        if (traps) {
            Check.states(what + " is no word", m, 0, 3, 3, 2, 6);
            Check.states(what + " is no word", m, 8, 2, 0, 0, 2);
        } else {
            Check.states(what + " is a word", m, 8, 0, 0, 0, 0);
        }
    }

    private static void trapOf(int why, int thread, int place, String what, long... words) {
        WarpMill m = new WarpMill();
        Check.kernel(m, words);
        m.launch(1, 4);
        m.run(50);
        Check.states(what, m, 8, why, 0, thread, place);
        Check.due(what + ": state(0)", m.state(0), why == 0 ? m.state(0) : 3);
    }

    private static void traps() {
        long lane = Check.w(3, 1, 0, 0, 4);
        trapOf(1, 0, 128, "a jump to 128", lane, Check.w(40, 0, 0, 0, 128));
        trapOf(1, 0, -1, "a jump to -1", lane, Check.w(40, 0, 0, 0, -1));
        trapOf(1, 0, MIN, "a jump to the least int", lane, Check.w(40, 0, 0, 0, MIN));
        trapOf(0, 0, 0, "a jump to 127", lane, Check.w(40, 0, 0, 0, 127));
        trapOf(3, 0, 1, "7 by 0", lane, Check.w(7, 2, 1, 3, 0));
        trapOf(3, 0, 1, "8 by 0", lane, Check.w(8, 2, 1, 3, 0));
        trapOf(0, 0, 0, "7 by 0 that no lane does", lane, Check.guarded(8, 7, 2, 1, 3, 0));
        for (int op = 50; op <= 59; op++) {
            boolean shared = op == 52 || op == 53 || op == 58 || op == 59;
            int bound = shared ? 64 : 512;
            trapOf(4, 3, 1, "op " + op + " beyond", lane, Check.w(op, 2, 1, 1, bound - 3));
            trapOf(0, 0, 0, "op " + op + " at the end", lane, Check.w(op, 2, 1, 1, bound - 4));
            trapOf(4, 0, 1, "op " + op + " below 0", lane, Check.w(op, 2, 1, 1, -1));
            trapOf(0, 0, 0, "op " + op + " at 0", lane, Check.w(op, 2, 1, 1, 0));
            trapOf(0, 0, 0, "op " + op + " wraps to 0", lane, Check.w(2, 1, 0, 0, MIN), Check.w(op, 2, 1, 1, MIN));
            trapOf(0, 0, 0, "op " + op + " that no lane does", lane, Check.guarded(8, op, 2, 1, 1, bound));
        }
        // The word at 127 is followed by a place that is beyond.
        WarpMill m = new WarpMill();
        Check.kernel(m, Check.w(40, 0, 0, 0, 127));
        m.word(127, Check.w(2, 1, 0, 0, 1));
        m.launch(1, 1);
        Check.due("past 127", m.run(9), 3);
        Check.states("past 127", m, 8, 1, 0, 0, 128);
        Check.states("past 127", m, 1, 3, 2);
    }

    private static void trapOfTheLeastLane() {
        WarpMill m = new WarpMill();
        // Threads 4 .. 7 are warp 1 (slot 1). Lane 2 has 0 there; only lanes that do it count.
        Check.kernel(m, Check.w(3, 1, 0, 0, 0), Check.w(18, 1, 1, 0, -6), Check.w(7, 2, 1, 1, 0), Check.w(40, 0, 0, 0, 3));
        m.launch(1, 8);
        Check.due("divided", m.run(50), 3);
        // Slot 0 divides in cycle 4 (4 + 8); slot 1 in cycle 12, and traps.
        Check.states("the least lane", m, 1, 13);
        Check.states("the least lane", m, 8, 3, 0, 6, 2);
        Check.due("the slot that trapped went last", m.unit(0, 2), 1);
        Check.lanes("none does anything", m, 0, 1, 2, 0, 0, 0, 0);
        Check.lanes("none goes on", m, 0, 1, 16, 2, 2, 2, 2);
        Check.due("no tick", m.slot(0, 1, 5 + 2), 0);
        Check.due("no divider tick", m.unit(0, 0), 12);
    }
}
