/**
 * What the tests of boundary cases share. Each of their methods stands for one sentence of the document: it
 * says first, by sentence(), to which promise or term that belongs and what its words are; what is wrong
 * behind that is told with them.
 */
abstract class Edges {
    static final int NONE = WarpMill.NONE;
    static final int MIN = Integer.MIN_VALUE;
    static final int MAX = Integer.MAX_VALUE;
    static final int NO_SUCH = Check.NO_SUCH;
    static final int WRONG_ARGUMENT = Check.WRONG_ARGUMENT;
    static final int WRONG_STATE = Check.WRONG_STATE;

    static final int PLACE = 16;
    static final int PREDICATE = 17;
    static final int MEMORY_TICK = 4;
    static final int REGISTER_TICK = 5;
    static final int PREDICATE_TICK = 21;

    static final long END = 0L;
    static final long WAIT = 1L;
    static final long NO_WORD = 255L;

    static void sentence(String where, String words) {
        Check.sentence(where, words);
    }

    static void due(String what, int got, int want) {
        Check.due(what, got, want);
    }

    static void yes(String what, int got) {
        Check.due(what, got, 1);
    }

    static void no(String what, int got) {
        Check.due(what, got, 0);
    }

    static long w(int op, int d, int a, int b, int n) {
        return Check.w(op, d, a, b, n);
    }

    /** The word, if predicate p is true. */
    static long on(int p, long word) {
        return word | (8L + p) << 20;
    }

    /** The word, if predicate p is false. */
    static long off(int p, long word) {
        return word | (12L + p) << 20;
    }

    static long put(int d, int n) {
        return w(2, d, 0, 0, n);
    }

    static long about(int d, int n) {
        return w(3, d, 0, 0, n);
    }

    static long add(int d, int a, int n) {
        return w(18, d, a, 0, n);
    }

    /** Its d is there three cycles later only. */
    static long times(int d, int a, int n) {
        return w(19, d, a, 0, n);
    }

    static long less(int p, int a, int n) {
        return w(32, p, a, 0, n);
    }

    static long equal(int p, int a, int n) {
        return w(33, p, a, 0, n);
    }

    static long jump(int n) {
        return w(40, 0, 0, 0, n);
    }

    static long load(int d, int a, int n) {
        return w(50, d, a, 0, n);
    }

    static long store(int a, int b, int n) {
        return w(51, 0, a, b, n);
    }

    static boolean ofShared(int op) {
        return op == 52 || op == 53 || op == 58 || op == 59;
    }

    /** A new mill with these words from place 0 on. */
    static Mill mill(long... words) {
        return kernel(new Mill(), words);
    }

    /** Likewise, with 4 banks, 2 gates and 512 ints. */
    static Mill sized(int lanes, int slots, int units, long... words) {
        Mill m = new Mill();
        yes("sizes", m.sizes(lanes, slots, units, 4, 2, 512));
        return kernel(m, words);
    }

    static Mill kernel(Mill m, long... words) {
        return kernelAt(m, 0, words);
    }

    static Mill kernelAt(Mill m, int place, long... words) {
        for (int k = 0; k < words.length; k++) {
            yes("word(" + (place + k) + ")", m.word(place + k, words[k]));
        }
        return m;
    }

    static Mill launched(Mill m, int blocks, int threads) {
        yes("launch(" + blocks + ", " + threads + ")", m.launch(blocks, threads));
        return m;
    }

    /** One thread writes global memory in cycle 0 (it is done in cycle 12) and traps in cycle 1. */
    static Mill trapWithPending() {
        Mill m = launched(mill(store(0, 0, 8), NO_WORD), 1, 1);
        due("a trap, and something pending", m.run(2), 4);
        return m;
    }
}
