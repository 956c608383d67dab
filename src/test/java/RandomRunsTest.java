import java.util.Random;
import java.util.function.IntSupplier;

/**
 * Holds WarpMill against PlainMill in random runs of calls (always the same ones: the seed is fixed). An object is
 * asked no more than the 512 calls for which it is promised, so what there is to see is asked for at random.
 */
public final class RandomRunsTest {
    private static final int PROMISED_CALLS = 512;
    // What one more launch takes at most, before it has been looked at.
    private static final int CALLS_OF_A_LAUNCH = 130;

    private static final int NONE = WarpMill.NONE;
    private static int wrong = 0;
    private static final int[] seen = new int[16];

    private final Random random;
    private final int trial;
    private final WarpMill mill = new WarpMill();
    private final PlainMill plain = new PlainMill();
    private int calls = 0;

    private RandomRunsTest(int trial) {
        this.trial = trial;
        random = new Random(trial * 7919L + 1);
    }

    public static void main(String[] args) {
        int trials = args.length > 0 ? Integer.parseInt(args[0]) : 1500;
        for (int trial = 0; trial < trials && wrong < 20; trial++) {
            new RandomRunsTest(trial).go();
        }
        System.out.println("runs that ended as 0..4: " + seen[0] + " " + seen[1] + " " + seen[2] + " " + seen[3]
            + " " + seen[4] + "; traps 1..4: " + seen[8] + " " + seen[9] + " " + seen[10] + " " + seen[11]);
        for (int k : new int[] {1, 2, 3, 4, 8, 9, 10, 11}) {
            if (seen[k] == 0) {
                wrong++;
                System.out.println("the runs never came to case " + k);
            }
        }
        System.out.println(wrong == 0 ? "all answers are as due" : wrong + " answers are not as due");
        if (wrong != 0) {
            System.exit(1);
        }
    }

    /** Asks both, unless the object has had its calls. */
    private int same(String call, IntSupplier got, IntSupplier due) {
        if (left() == 0) {
            return NONE;
        }
        calls++;
        int g = Check.of(got);
        int d = Check.of(due);
        if (g != d) {
            wrong++;
            if (wrong < 20) {
                System.out.println("trial " + trial + ", cycle " + plain.state(1) + ": " + call + " answered " + g
                    + ", due is " + d);
            }
        }
        return d;
    }

    private int left() {
        return PROMISED_CALLS - calls;
    }

    private static int bit(boolean b) {
        return b ? 1 : 0;
    }

    private void go() {
        int launches = 1 + random.nextInt(4);
        for (int l = 0; l < launches && left() >= CALLS_OF_A_LAUNCH && wrong == 0; l++) {
            if (l == 0 || random.nextInt(3) == 0) {
                chooseSizes();
            }
            if (l == 0 || random.nextInt(2) == 0) {
                writeKernel();
            }
            setSome();
            int blocks = 1 + random.nextInt(random.nextBoolean() ? 64 : 6);
            int most = plain.lanes * plain.slots;
            int threads = 1 + random.nextInt(random.nextBoolean() ? most : Math.min(most, 2 * plain.lanes));
            launch(blocks, threads);
            runAWhile(launches - l);
        }
    }

    private int power(int least, int most) {
        int k = least;
        while (k < most && random.nextInt(3) != 0) {
            k *= 2;
        }
        return k;
    }

    private void chooseSizes() {
        int[] s = {power(1, 32), 1 + random.nextInt(16), 1 + random.nextInt(8), power(1, 32), power(1, 8), power(512, 4096)};
        sizes(s);
        if (random.nextInt(3) == 0) {
            s[random.nextInt(6)] = random.nextInt(70) - 3;
            sizes(s);
        }
        look(5);
    }

    private void sizes(int[] s) {
        same("sizes", () -> bit(mill.sizes(s[0], s[1], s[2], s[3], s[4], s[5])),
            () -> bit(plain.sizes(s[0], s[1], s[2], s[3], s[4], s[5])));
    }

    private void word(int k, long w) {
        same("word(" + k + ", " + w + ")", () -> bit(mill.word(k, w)), () -> bit(plain.word(k, w)));
    }

    private static long code(int op, int d, int a, int b, int g, int n) {
        return Check.guarded(g, op, d, a, b, n);
    }

    /** Registers 1 to 5 are made such that they can be asked for; the words behind use them mostly. */
    private void writeKernel() {
        int length = 10 + random.nextInt(50);
        int wild = random.nextInt(4) == 0 ? 12 : 2000;
        int calm = random.nextInt(3);
        word(0, code(3, 1, 0, 0, 0, random.nextInt(2) * 4));
        word(1, code(3, 2, 0, 0, 0, 1 + random.nextInt(6)));
        word(2, code(19, 3, 1, 0, 0, random.nextInt(16)));
        word(3, code(20, 3, 3, 0, 0, 255));
        word(4, code(20, 4, 1, 0, 0, random.nextInt(64)));
        word(5, code(18, 5, 4, 0, 0, 1));
        word(6, code(32, random.nextInt(4), 1, 0, 0, random.nextInt(32)));
        word(7, code(33, random.nextInt(4), 4, 0, 0, random.nextInt(8)));
        for (int k = 8; k < length; k++) {
            word(k, random.nextInt(wild) == 0 ? wildWord() : tameWord(k, length, calm));
        }
        word(length, code(0, 0, 0, 0, random.nextInt(2) == 0 ? 8 + random.nextInt(8) : 0, 0));
        word(length + 1, random.nextInt(6) == 0 ? code(40, 0, 0, 0, 0, 126 + random.nextInt(4)) : 0L);
        if (random.nextInt(5) == 0) {
            int k = random.nextInt(140) - 6;
            long w = random.nextLong();
            word(k, w);
        }
    }

    private long wildWord() {
        int[] kept = {3, 7, 40, 42, 50, 51, 52, 53, 54, 22, 37, 60, 99, 255};
        int op = random.nextInt(3) == 0 ? random.nextInt(256) : kept[random.nextInt(kept.length)];
        return code(op, random.nextInt(16), random.nextInt(16), random.nextInt(16), random.nextInt(16),
            random.nextBoolean() ? random.nextInt() : random.nextInt(140) - 8) | (random.nextLong() & 0xff000000L);
    }

    private long tameWord(int k, int length, int calm) {
        int guard = random.nextInt(3) == 0 ? 8 + random.nextInt(8) : random.nextInt(8);
        int d = 6 + random.nextInt(10);
        int a = random.nextInt(16);
        int b = random.nextInt(16);
        int n = random.nextInt(4) == 0 ? random.nextInt() : random.nextInt(40) - 8;
        int near = 1 + random.nextInt(4);
        switch (random.nextInt(8 + calm)) {
            case 0:
                return code(50 + random.nextInt(2), d, 3, b, guard, random.nextInt(200));
            case 1:
                return code(54 + random.nextInt(4), d, near, b, guard, random.nextInt(100));
            case 2:
                return code(random.nextBoolean() ? 52 : 53, d, 4, b, guard, 0);
            case 3:
                return code(58 + random.nextInt(2), d, 4, b, guard, 0);
            case 4:
                return code(30 + random.nextInt(7), random.nextInt(16), a, b, guard, n);
            case 5:
                return code(70 + random.nextInt(4), d, a, b, guard, n);
            case 6:
                return control(k, length, guard, d);
            default:
                int op = 2 + random.nextInt(20);
                boolean divides = op == 7 || op == 8;
                return code(op, d, a, divides ? 5 : b, guard, op == 3 ? random.nextInt(7) : n);
        }
    }

    private long control(int k, int length, int guard, int d) {
        int forward = Math.min(length, k + 1 + random.nextInt(8));
        int back = Math.max(8, k - random.nextInt(6));
        int kind = random.nextInt(12);
        if (kind < 3) {
            return code(1, 0, 0, 0, guard, 0);
        }
        if (kind < 4) {
            return code(0, 0, 0, 0, 8 + random.nextInt(8), 0);
        }
        if (kind < 5) {
            return code(40, 0, 0, 0, 8 + random.nextInt(8), back);
        }
        if (kind < 6) {
            return code(42, 0, random.nextBoolean() ? 5 : d, 0, 8 + random.nextInt(8), 0);
        }
        return code(40 + random.nextInt(2), d, 0, 0, guard, forward);
    }

    private void setSome() {
        for (int i = 0; i < 12; i++) {
            int k = random.nextInt(plain.global.length + 40) - 20;
            int v = random.nextBoolean() ? random.nextInt() : random.nextInt(50);
            same("set(" + k + ")", () -> bit(mill.set(k, v)), () -> bit(plain.set(k, v)));
        }
    }

    private void launch(int blocks, int threads) {
        same("launch(" + blocks + ", " + threads + ")", () -> bit(mill.launch(blocks, threads)),
            () -> bit(plain.launch(blocks, threads)));
    }

    private void run(int n) {
        int how = same("run(" + n + ")", () -> mill.run(n), () -> plain.run(n));
        if (how >= 0 && how <= 4) {
            seen[how]++;
            seen[7 + plain.state(8)]++;
        }
    }

    private void runAWhile(int launchesLeft) {
        int kept = (launchesLeft - 1) * CALLS_OF_A_LAUNCH;
        int most = random.nextInt(3) == 0 ? 2 : 40;
        int looks = 1 + random.nextInt(30);
        while (left() > kept + 50 && wrong == 0) {
            run(1 + random.nextInt(most));
            look(looks);
            wrongCalls();
            int how = plain.state(0);
            if (how == 0 || how == 2 || how == 3) {
                break;
            }
        }
        run(500);
        look(20);
        if (plain.state(0) == 1 || plain.state(0) == 4 || random.nextInt(8) == 0) {
            same("stop()", () -> bit(mill.stop()), () -> bit(plain.stop()));
            look(10);
            run(1 + random.nextInt(3));
        }
    }

    /** What a launch under way refuses, and what is out of bounds at any time. */
    private void wrongCalls() {
        if (random.nextInt(10) != 0) {
            return;
        }
        run(random.nextBoolean() ? 0 : 501);
        if (plain.state(0) == 1 || plain.state(0) == 4) {
            word(random.nextInt(128), random.nextLong());
            launch(1, 1);
            sizes(new int[] {4, 4, 2, 4, 2, 512});
        }
        int k = random.nextInt();
        int j = random.nextInt(80) - 10;
        state(k);
        unit(k, j);
        slot(j, k, j);
        lane(j, j, k, j);
        shared(j, k);
        cached(j, k);
        global(k);
    }

    private void look(int many) {
        for (int i = 0; i < many; i++) {
            lookOnce();
        }
    }

    /** From just below to just above what there is. */
    private int about(int count) {
        return random.nextInt(count + 2) - 1;
    }

    private void lookOnce() {
        switch (random.nextInt(12)) {
            case 0:
            case 1:
                state(about(20));
                break;
            case 2:
                unit(about(plain.unitCount), about(4));
                break;
            case 3:
                cached(about(plain.gates), about(5));
                break;
            case 4:
                shared(random.nextInt(3) == 0 ? about(64) : slotsBlock(), about(64));
                break;
            case 5:
            case 6:
                global(random.nextInt(8) == 0 ? about(plain.global.length) : random.nextInt(300));
                break;
            case 7:
            case 8:
            case 9:
                slot(usedUnit(), about(plain.slots), about(25));
                break;
            default:
                lane(usedUnit(), random.nextInt(plain.slots), random.nextInt(plain.lanes + 1), about(21));
        }
    }

    /** The first units are the ones that most launches fill. */
    private int usedUnit() {
        return random.nextBoolean() ? 0 : about(plain.unitCount);
    }

    private int slotsBlock() {
        return plain.slot(random.nextInt(plain.unitCount), random.nextInt(plain.slots), 0);
    }

    private void state(int what) {
        same("state(" + what + ")", () -> mill.state(what), () -> plain.state(what));
    }

    private void unit(int u, int what) {
        same("unit(" + u + ", " + what + ")", () -> mill.unit(u, what), () -> plain.unit(u, what));
    }

    private void cached(int gate, int place) {
        same("cached(" + gate + ", " + place + ")", () -> mill.cached(gate, place), () -> plain.cached(gate, place));
    }

    private void shared(int block, int k) {
        same("shared(" + block + ", " + k + ")", () -> mill.shared(block, k), () -> plain.shared(block, k));
    }

    private void global(int k) {
        same("global(" + k + ")", () -> mill.global(k), () -> plain.global(k));
    }

    private void slot(int u, int s, int what) {
        same("slot(" + u + ", " + s + ", " + what + ")", () -> mill.slot(u, s, what), () -> plain.slot(u, s, what));
    }

    private void lane(int u, int s, int lane, int r) {
        same("lane(" + u + ", " + s + ", " + lane + ", " + r + ")", () -> mill.lane(u, s, lane, r),
            () -> plain.lane(u, s, lane, r));
    }
}
