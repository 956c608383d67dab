/**
 * A WarpMill in a test's hands: it tells every answer as an int (true is 1, an exception has a number of
 * its own), and keeps the test to the 512 calls for which the document promises an object.
 */
final class Mill {
    private static final int PROMISED_CALLS = 512;
    private final WarpMill mill = new WarpMill();
    private int calls;

    private WarpMill called() {
        calls++;
        if (calls > PROMISED_CALLS) {
            Check.due("calls of one object", calls, PROMISED_CALLS);
        }
        return mill;
    }

    int sizes(int lanes, int slots, int units, int banks, int gates, int ints) {
        return called().sizes(lanes, slots, units, banks, gates, ints) ? 1 : 0;
    }

    int word(int k, long w) {
        return called().word(k, w) ? 1 : 0;
    }

    int set(int k, int v) {
        return called().set(k, v) ? 1 : 0;
    }

    int launch(int blocks, int threads) {
        return called().launch(blocks, threads) ? 1 : 0;
    }

    int run(int n) {
        return Check.of(() -> called().run(n));
    }

    int stop() {
        return called().stop() ? 1 : 0;
    }

    int global(int k) {
        return Check.of(() -> called().global(k));
    }

    int state(int what) {
        return called().state(what);
    }

    int unit(int unit, int what) {
        return called().unit(unit, what);
    }

    int cached(int gate, int place) {
        return called().cached(gate, place);
    }

    int slot(int unit, int slot, int what) {
        return called().slot(unit, slot, what);
    }

    int lane(int unit, int slot, int lane, int r) {
        return Check.of(() -> called().lane(unit, slot, lane, r));
    }

    int shared(int block, int k) {
        return Check.of(() -> called().shared(block, k));
    }

    /** Does cycles until so many have been in the launch. */
    void upTo(int cycles) {
        int left = cycles - state(1);
        if (left > 0) {
            run(left);
        }
        Check.due("cycles", state(1), cycles);
    }

    /** What state(from) and those behind it are to tell. */
    void states(String what, int from, int... want) {
        for (int k = 0; k < want.length; k++) {
            Check.due(what + ": state(" + (from + k) + ")", state(from + k), want[k]);
        }
    }

    /** What register r (or the place, or a predicate) is to be in lane 0 of a slot and in those behind it. */
    void lanes(String what, int unit, int slot, int r, int... want) {
        for (int k = 0; k < want.length; k++) {
            Check.due(what + ": lane(" + unit + ", " + slot + ", " + k + ", " + r + ")", lane(unit, slot, k, r), want[k]);
        }
    }
}
