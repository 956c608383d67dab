import java.util.NoSuchElementException;
import java.util.function.IntSupplier;

/** What the tests share: words, answers that are due, and the end with exit code 1. */
final class Check {
    static final int NO_SUCH = Integer.MIN_VALUE + 101;
    static final int WRONG_ARGUMENT = Integer.MIN_VALUE + 102;
    static final int WRONG_STATE = Integer.MIN_VALUE + 103;
    private static int wrong = 0;
    private static int asked = 0;
    private static int sentences = 0;
    private static int askedBefore = 0;
    private static String sentence = "";

    private Check() {
    }

    /** What is asked for from here on is held against these words of the document. */
    static void sentence(String where, String words) {
        refuseAnEmptyOne();
        sentences++;
        askedBefore = asked;
        sentence = where + ", \"" + words + "\": ";
    }

    private static void refuseAnEmptyOne() {
        if (sentences > 0 && asked == askedBefore) {
            wrong++;
            System.out.println(sentence + "nothing is asked for");
        }
    }

    static void due(String what, int got, int want) {
        asked++;
        if (got != want) {
            wrong++;
            System.out.println(sentence + what + " answered " + got + ", due is " + want);
        }
    }

    static void yes(String what, boolean got) {
        due(what, got ? 1 : 0, 1);
    }

    static void no(String what, boolean got) {
        due(what, got ? 1 : 0, 0);
    }

    /** The answer, or the number that stands for what the call throws. */
    static int of(IntSupplier call) {
        try {
            return call.getAsInt();
        } catch (NoSuchElementException e) {
            return NO_SUCH;
        } catch (IllegalArgumentException e) {
            return WRONG_ARGUMENT;
        } catch (IllegalStateException e) {
            return WRONG_STATE;
        }
    }

    static long w(int op, int d, int a, int b, int n) {
        return guarded(0, op, d, a, b, n);
    }

    static long guarded(int g, int op, int d, int a, int b, int n) {
        return op | (long) d << 8 | (long) a << 12 | (long) b << 16 | (long) g << 20 | (long) n << 32;
    }

    /** Writes the words from place 0 on. */
    static void kernel(WarpMill x, long... words) {
        for (int k = 0; k < words.length; k++) {
            yes("word(" + k + ")", x.word(k, words[k]));
        }
    }

    /** Does cycles until so many have been in the launch. */
    static void upTo(WarpMill x, int cycles) {
        while (x.state(1) < cycles && (x.state(0) == 1 || x.state(0) == 4)) {
            x.run(Math.min(500, cycles - x.state(1)));
        }
        due("cycles", x.state(1), cycles);
    }

    static void states(String where, WarpMill x, int from, int... want) {
        for (int k = 0; k < want.length; k++) {
            due(where + ": state(" + (from + k) + ")", x.state(from + k), want[k]);
        }
    }

    static void lanes(String where, WarpMill x, int unit, int slot, int r, int... want) {
        for (int k = 0; k < want.length; k++) {
            int lane = k;
            due(where + ": lane(" + unit + ", " + slot + ", " + lane + ", " + r + ")",
                of(() -> x.lane(unit, slot, lane, r)), want[k]);
        }
    }

    static void end() {
        refuseAnEmptyOne();
        String held = sentences > 0 ? sentences + " sentences, " : "";
        System.out.println(held + asked + " answers, " + (wrong == 0 ? "all as due" : wrong + " not as due"));
        if (wrong != 0) {
            System.exit(1);
        }
    }
}
