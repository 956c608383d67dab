import java.util.Random;
import java.util.function.IntSupplier;

/** Holds WarpMill against PlainMill in random runs of calls (always the same ones: the seed is fixed). */
public final class RandomRunsTest {
    private static int wrong = 0;
    private static final int[] seen = new int[16];

    private final Random random;
    private final int trial;
    private final WarpMill mill = new WarpMill();
    private final PlainMill plain = new PlainMill();

    private RandomRunsTest(int trial) {
        this.trial = trial;
        random = new Random(trial * 7919L + 1);
    }

    public static void main(String[] args) {
        int trials = args.length > 0 ? Integer.parseInt(args[0]) : 150;
        for (int trial = 0; trial < trials && wrong < 20; trial++) {
            new RandomRunsTest(trial).go();
        }
        System.out.println("runs that ended as 0..4: " + seen[0] + " " + seen[1] + " " + seen[2] + " " + seen[3]
            + " " + seen[4] + "; traps 1..4: " + seen[8] + " " + seen[9] + " " + seen[10] + " " + seen[11]);
        for (int k : new int[] {1, 2, 3, 4, 8, 9, 10, 11}) {
            if (seen[k] == 0) {
                wrong++;
                System.out.println("the runs never came to case " + k);
            }
        }
        System.out.println(wrong == 0 ? "all answers are as due" : wrong + " answers are not as due");
        if (wrong != 0) {
            System.exit(1);
        }
    }

    private int same(String call, IntSupplier got, IntSupplier due) {
        int g = Check.of(got);
        int d = Check.of(due);
        if (g != d) {
            wrong++;
            if (wrong < 20) {
                System.out.println("trial " + trial + ", cycle " + plain.state(1) + ": " + call + " answered " + g
                    + ", due is " + d);
            }
        }
        return d;
    }

    private static int bit(boolean b) {
        return b ? 1 : 0;
    }

    private void go() {
        int launches = 1 + random.nextInt(4);
        for (int l = 0; l < launches && wrong == 0; l++) {
            if (l == 0 || random.nextInt(3) == 0) {
                chooseSizes();
            }
            if (l == 0 || random.nextInt(2) == 0) {
                writeKernel();
            }
            setSome();
            int blocks = 1 + random.nextInt(random.nextBoolean() ? 64 : 6);
            int most = plain.lanes * plain.slots;
            int threads = 1 + random.nextInt(random.nextBoolean() ? most : Math.min(most, 2 * plain.lanes));
            launch(blocks, threads);
            runAWhile();
        }
    }

    private int power(int least, int most) {
        int k = least;
        while (k < most && random.nextInt(3) != 0) {
            k *= 2;
        }
        return k;
    }

    private void chooseSizes() {
        int[] s = {power(1, 32), 1 + random.nextInt(16), 1 + random.nextInt(8), power(1, 32), power(1, 8), power(512, 4096)};
        sizes(s);
        if (random.nextInt(3) == 0) {
            s[random.nextInt(6)] = random.nextInt(70) - 3;
            sizes(s);
        }
        snapshot();
    }

    private void sizes(int[] s) {
        same("sizes", () -> bit(mill.sizes(s[0], s[1], s[2], s[3], s[4], s[5])),
            () -> bit(plain.sizes(s[0], s[1], s[2], s[3], s[4], s[5])));
    }

    private void word(int k, long w) {
        same("word(" + k + ", " + w + ")", () -> bit(mill.word(k, w)), () -> bit(plain.word(k, w)));
    }

    private static long code(int op, int d, int a, int b, int g, int n) {
        return Check.guarded(g, op, d, a, b, n);
    }

    /** Registers 1 to 5 are made such that they can be asked for; the words behind use them mostly. */
    private void writeKernel() {
        int length = 10 + random.nextInt(50);
        int wild = random.nextInt(4) == 0 ? 12 : 2000;
        int calm = random.nextInt(3);
        word(0, code(3, 1, 0, 0, 0, random.nextInt(2) * 4));
        word(1, code(3, 2, 0, 0, 0, 1 + random.nextInt(6)));
        word(2, code(19, 3, 1, 0, 0, random.nextInt(16)));
        word(3, code(20, 3, 3, 0, 0, 255));
        word(4, code(20, 4, 1, 0, 0, random.nextInt(64)));
        word(5, code(18, 5, 4, 0, 0, 1));
        word(6, code(32, random.nextInt(4), 1, 0, 0, random.nextInt(32)));
        word(7, code(33, random.nextInt(4), 4, 0, 0, random.nextInt(8)));
        for (int k = 8; k < length; k++) {
            word(k, random.nextInt(wild) == 0 ? wildWord() : tameWord(k, length, calm));
        }
        word(length, code(0, 0, 0, 0, random.nextInt(2) == 0 ? 8 + random.nextInt(8) : 0, 0));
        word(length + 1, random.nextInt(6) == 0 ? code(40, 0, 0, 0, 0, 126 + random.nextInt(4)) : 0L);
        if (random.nextInt(5) == 0) {
            int k = random.nextInt(140) - 6;
            long w = random.nextLong();
            word(k, w);
        }
    }

    private long wildWord() {
        int[] kept = {3, 7, 40, 42, 50, 51, 52, 53, 54, 22, 37, 60, 99, 255};
        int op = random.nextInt(3) == 0 ? random.nextInt(256) : kept[random.nextInt(kept.length)];
        return code(op, random.nextInt(16), random.nextInt(16), random.nextInt(16), random.nextInt(16),
            random.nextBoolean() ? random.nextInt() : random.nextInt(140) - 8) | (random.nextLong() & 0xff000000L);
    }

    private long tameWord(int k, int length, int calm) {
        int guard = random.nextInt(3) == 0 ? 8 + random.nextInt(8) : random.nextInt(8);
        int d = 6 + random.nextInt(10);
        int a = random.nextInt(16);
        int b = random.nextInt(16);
        int n = random.nextInt(4) == 0 ? random.nextInt() : random.nextInt(40) - 8;
        int near = 1 + random.nextInt(4);
        switch (random.nextInt(8 + calm)) {
            case 0:
                return code(50 + random.nextInt(2), d, 3, b, guard, random.nextInt(200));
            case 1:
                return code(54 + random.nextInt(4), d, near, b, guard, random.nextInt(100));
            case 2:
                return code(random.nextBoolean() ? 52 : 53, d, 4, b, guard, 0);
            case 3:
                return code(58 + random.nextInt(2), d, 4, b, guard, 0);
            case 4:
                return code(30 + random.nextInt(7), random.nextInt(16), a, b, guard, n);
            case 5:
                return code(70 + random.nextInt(4), d, a, b, guard, n);
            case 6:
                return control(k, length, guard, d);
            default:
                int op = 2 + random.nextInt(20);
                boolean divides = op == 7 || op == 8;
                return code(op, d, a, divides ? 5 : b, guard, op == 3 ? random.nextInt(7) : n);
        }
    }

    private long control(int k, int length, int guard, int d) {
        int forward = Math.min(length, k + 1 + random.nextInt(8));
        int back = Math.max(8, k - random.nextInt(6));
        int kind = random.nextInt(12);
        if (kind < 3) {
            return code(1, 0, 0, 0, guard, 0);
        }
        if (kind < 4) {
            return code(0, 0, 0, 0, 8 + random.nextInt(8), 0);
        }
        if (kind < 5) {
            return code(40, 0, 0, 0, 8 + random.nextInt(8), back);
        }
        if (kind < 6) {
            return code(42, 0, random.nextBoolean() ? 5 : d, 0, 8 + random.nextInt(8), 0);
        }
        return code(40 + random.nextInt(2), d, 0, 0, guard, forward);
    }

    private void setSome() {
        for (int i = 0; i < 20; i++) {
            int k = random.nextInt(plain.global.length + 40) - 20;
            int v = random.nextBoolean() ? random.nextInt() : random.nextInt(50);
            same("set(" + k + ")", () -> bit(mill.set(k, v)), () -> bit(plain.set(k, v)));
        }
    }

    private void launch(int blocks, int threads) {
        same("launch(" + blocks + ", " + threads + ")", () -> bit(mill.launch(blocks, threads)),
            () -> bit(plain.launch(blocks, threads)));
    }

    private void run(int n) {
        int how = same("run(" + n + ")", () -> mill.run(n), () -> plain.run(n));
        if (how >= 0 && how <= 4) {
            seen[how]++;
            seen[7 + plain.state(8)]++;
        }
    }

    private void runAWhile() {
        int runs = 20 + random.nextInt(30);
        int most = random.nextInt(3) == 0 ? 2 : 40;
        for (int i = 0; i < runs && wrong == 0; i++) {
            run(1 + random.nextInt(most));
            snapshot();
            wrongCalls();
            int how = plain.state(0);
            if (how == 0 || how == 2 || how == 3) {
                break;
            }
        }
        run(500);
        snapshot();
        if (plain.state(0) == 1 || plain.state(0) == 4 || random.nextInt(8) == 0) {
            same("stop()", () -> bit(mill.stop()), () -> bit(plain.stop()));
            snapshot();
            run(1 + random.nextInt(3));
        }
    }

    /** What a launch under way refuses, and what is out of bounds at any time. */
    private void wrongCalls() {
        if (random.nextInt(4) != 0) {
            return;
        }
        run(random.nextBoolean() ? 0 : 501);
        if (plain.state(0) == 1 || plain.state(0) == 4) {
            word(random.nextInt(128), random.nextLong());
            launch(1, 1);
            sizes(new int[] {4, 4, 2, 4, 2, 512});
        }
        int k = random.nextInt();
        int j = random.nextInt(80) - 10;
        same("state", () -> mill.state(k), () -> plain.state(k));
        same("unit", () -> mill.unit(k, j), () -> plain.unit(k, j));
        same("slot", () -> mill.slot(j, k, j), () -> plain.slot(j, k, j));
        same("lane", () -> mill.lane(j, j, k, j), () -> plain.lane(j, j, k, j));
        same("shared", () -> mill.shared(j, k), () -> plain.shared(j, k));
        same("cached", () -> mill.cached(j, k), () -> plain.cached(j, k));
        same("global", () -> mill.global(k), () -> plain.global(k));
    }

    private void snapshot() {
        for (int what = -1; what <= 20; what++) {
            int w = what;
            same("state(" + w + ")", () -> mill.state(w), () -> plain.state(w));
        }
        for (int u = -1; u <= plain.unitCount; u++) {
            unitSnapshot(u);
        }
        for (int gate = -1; gate <= plain.gates; gate++) {
            for (int place = -1; place <= 5; place++) {
                int g = gate;
                int p = place;
                same("cached(" + g + ", " + p + ")", () -> mill.cached(g, p), () -> plain.cached(g, p));
            }
        }
        for (int block = -1; block <= 64; block++) {
            // Throwing is slow: of a block that is not there one int is enough.
            int step = plain.placed(block) ? 1 + random.nextInt(9) : 66;
            for (int k = -random.nextInt(2); k <= 64; k += step) {
                int b = block;
                int i = k;
                same("shared(" + b + ", " + i + ")", () -> mill.shared(b, i), () -> plain.shared(b, i));
            }
        }
        for (int k = -1; k <= plain.global.length; k += 1 + random.nextInt(3)) {
            int i = k;
            same("global(" + i + ")", () -> mill.global(i), () -> plain.global(i));
        }
    }

    private void unitSnapshot(int u) {
        for (int what = -1; what <= 4; what++) {
            int w = what;
            same("unit(" + u + ", " + w + ")", () -> mill.unit(u, w), () -> plain.unit(u, w));
        }
        for (int slot = -1; slot <= plain.slots; slot++) {
            int s = slot;
            for (int what = -1; what <= 25; what++) {
                int w = what;
                same("slot(" + u + ", " + s + ", " + w + ")", () -> mill.slot(u, s, w), () -> plain.slot(u, s, w));
            }
            boolean free = plain.slot(u, s, 0) == -1;
            int from = random.nextInt(8) == 0 ? -1 : 0;
            int to = free ? 0 : random.nextInt(8) == 0 ? plain.lanes : plain.lanes - 1;
            for (int lane = from; lane <= to; lane++) {
                int last = free || lane < 0 || lane >= plain.lanes ? from : 20;
                for (int r = from; r <= last; r++) {
                    int l = lane;
                    int q = r;
                    same("lane(" + u + ", " + s + ", " + l + ", " + q + ")", () -> mill.lane(u, s, l, q),
                        () -> plain.lane(u, s, l, q));
                }
            }
        }
    }
}
