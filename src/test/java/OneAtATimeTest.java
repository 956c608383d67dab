import java.util.ArrayList;
import java.util.Collections;
import java.util.List;
import java.util.Random;

/**
 * What stands under 'What it is': for each thread it is as if the threads had gone one word at a time. Random
 * kernels (always the same ones: the seed is fixed), in which a thread uses ints of its own, ints that grow
 * whatever the order, and between barriers what another one has left for it, are done here by one thread
 * behind the other, without lanes, cycles, ticks and cache; the memory must be the same in the end.
 */
public final class OneAtATimeTest {
    // What the words are sure of: register 0 is 0, and what is left in 15 is not looked at.
    private static final int ZERO = 0;
    private static final int NUMBER = 1;
    private static final int BLOCK = 2;
    private static final int THREADS = 3;
    private static final int ALL_NUMBER = 4;
    private static final int OWN = 5;
    private static final int OWN_SHARED = 6;
    private static final int DIVISOR = 7;
    private static final int FREE = 8;
    private static final int FREE_COUNT = 4;
    private static final int WHERE = 12;
    private static final int COUNTER = 13;
    private static final int OTHER = 14;
    private static final int SINK = 15;
    private static final int LOOPS = 3;
    private static final int OWN_INTS = 4;
    private static final int COMMON_INTS = 16;

    private static final int SET_INTS = 40;
    private static final int ASKED_INTS = 240;
    private static final int MOST_RUNS = 40;

    // Launches that the 20000 cycles cut off: they leave nothing to compare.
    private static int cutOff = 0;

    private final Random random;
    private final List<Long> words = new ArrayList<>();
    private int lanes;
    private int ints;
    private int blocks;
    private int threads;
    private int[] global;
    private int did;

    private OneAtATimeTest(int trial) {
        random = new Random(trial * 104729L + 5);
    }

    public static void main(String[] args) {
        int trials = args.length > 0 ? Integer.parseInt(args[0]) : 300;
        Check.sentence("What it is", "for each thread it is as if the threads had gone one word at a time, in some order");
        for (int trial = 0; trial < trials; trial++) {
            new OneAtATimeTest(trial).go("trial " + trial);
        }
        Check.yes("most have come to their end", cutOff * 50 <= trials);
        Check.end();
    }

    private void go(String trial) {
        Mill mill = new Mill();
        lanes = 1 << random.nextInt(6);
        int slots = 1 + random.nextInt(16);
        ints = 512 << random.nextInt(4);
        Check.due(trial + ": sizes", mill.sizes(lanes, slots, 1 + random.nextInt(8), 1 << random.nextInt(6),
            1 << random.nextInt(4), ints), 1);
        threads = 1 + random.nextInt(Math.min(32, lanes * slots));
        blocks = 1 + random.nextInt(Math.min(64, (ints - COMMON_INTS) / (OWN_INTS * threads)));
        writeKernel();
        for (int k = 0; k < words.size(); k++) {
            Check.due(trial + ": word(" + k + ")", mill.word(k, words.get(k)), 1);
        }
        global = new int[ints];
        for (int k = 0; k < SET_INTS; k++) {
            int where = random.nextInt(ints);
            global[where] = random.nextInt();
            Check.due(trial + ": set(" + where + ")", mill.set(where, global[where]), 1);
        }
        Check.due(trial + ": launch", mill.launch(blocks, threads), 1);
        int how = 1;
        for (int k = 0; k < MOST_RUNS && how == 1; k++) {
            how = mill.run(500);
        }
        if (how == 1) {
            cutOff++;
            return;
        }
        Check.due(trial + ": all blocks have ended", how, 2);
        oneAtATime();
        compare(trial, mill);
    }

    private void compare(String trial, Mill mill) {
        Check.due(trial + ": blocks", mill.state(6), blocks);
        Check.due(trial + ": words that threads did", mill.state(3), did);
        List<Integer> own = new ArrayList<>();
        for (int k = 0; k < OWN_INTS * blocks * threads; k++) {
            own.add(k);
        }
        // An object's calls are too few to ask for each int of each thread.
        Collections.shuffle(own, random);
        for (int k : own.subList(0, Math.min(own.size(), ASKED_INTS))) {
            Check.due(trial + ": global(" + k + ")", mill.global(k), global[k]);
        }
        for (int k = ints - COMMON_INTS; k < ints; k++) {
            Check.due(trial + ": global(" + k + ")", mill.global(k), global[k]);
        }
    }

    private void add(int g, int op, int d, int a, int b, int n) {
        words.add(Check.guarded(g, op, d, a, b, n) | (random.nextInt() & 0xff000000L));
    }

    private void writeKernel() {
        add(0, 3, NUMBER, 0, 0, 0);
        add(0, 3, BLOCK, 0, 0, 1);
        add(0, 3, THREADS, 0, 0, 2);
        add(0, 6, ALL_NUMBER, BLOCK, THREADS, 0);
        add(0, 4, ALL_NUMBER, ALL_NUMBER, NUMBER, 0);
        add(0, 19, OWN, ALL_NUMBER, 0, OWN_INTS);
        add(0, 19, OWN_SHARED, NUMBER, 0, 2);
        add(0, 2, DIVISOR, 0, 0, random.nextInt() | 1);
        for (int k = 0; k < FREE_COUNT; k++) {
            add(0, 18, FREE + k, random.nextInt(FREE), 0, random.nextInt(9) - 4);
        }
        int parts = 1 + random.nextInt(3);
        for (int k = 0; k < parts; k++) {
            if (random.nextBoolean()) {
                addLoop();
            } else {
                addPart(4 + random.nextInt(12));
            }
            addExchange();
        }
        for (int k = 0; k < OWN_INTS; k++) {
            add(0, 54, SINK, OWN, FREE + k, k);
        }
        add(0, 0, 0, 0, 0, 0);
    }

    private void addLoop() {
        add(0, 20, COUNTER, random.nextInt(FREE), 0, 3);
        int begin = words.size();
        addPart(2 + random.nextInt(8));
        add(0, 18, COUNTER, COUNTER, 0, -1);
        add(0, 32, LOOPS, COUNTER, 0, 1);
        add(12 | LOOPS, 40, 0, 0, 0, begin);
    }

    /** Each thread leaves an int, all wait, each takes what another one has left, all wait again. */
    private void addExchange() {
        add(0, 53, 0, OWN_SHARED, free(), 0);
        add(0, 1, 0, 0, 0, 0);
        add(0, 18, OTHER, NUMBER, 0, random.nextInt(40));
        add(0, 8, OTHER, OTHER, THREADS, 0);
        add(0, 19, OTHER, OTHER, 0, 2);
        add(0, 52, free(), OTHER, 0, 0);
        add(0, 1, 0, 0, 0, 0);
    }

    /** All that jump go on in the part, or at its end, so that it has one. */
    private void addPart(int length) {
        int end = words.size() + length;
        add(0, 2, WHERE, 0, 0, end);
        while (words.size() < end) {
            addOne(end);
        }
    }

    private int free() {
        return FREE + random.nextInt(FREE_COUNT);
    }

    private int guard() {
        return random.nextInt(2) == 0 ? random.nextInt(8) : 8 + random.nextInt(2) * 4 + random.nextInt(LOOPS);
    }

    private void addOne(int end) {
        int any = random.nextInt(COUNTER);
        int n = random.nextBoolean() ? random.nextInt() : random.nextInt(20) - 5;
        int forward = words.size() + 1 + random.nextInt(end - words.size());
        switch (random.nextInt(12)) {
            case 0:
                add(guard(), 50 + random.nextInt(2), free(), OWN, any, random.nextInt(OWN_INTS));
                return;
            case 1:
                add(guard(), 54 + random.nextInt(4), free(), OWN, any, random.nextInt(OWN_INTS));
                return;
            case 2:
                add(guard(), random.nextBoolean() ? 52 : 53, free(), OWN_SHARED, any, random.nextInt(2));
                return;
            case 3:
                add(guard(), 58 + random.nextInt(2), free(), OWN_SHARED, any, random.nextInt(2));
                return;
            case 4:
                int op = 54 + random.nextInt(2);
                add(guard(), op, SINK, ZERO, any, ints - COMMON_INTS + random.nextInt(8) + (op - 54) * 8);
                return;
            case 5:
                add(guard(), 40 + random.nextInt(2), free(), 0, 0, forward);
                return;
            case 6:
                add(guard(), 42, free(), WHERE, 0, n);
                return;
            case 7:
                add(guard(), 73, free(), any, 0, lanes * random.nextInt());
                return;
            case 8:
                add(guard() | 8, random.nextInt(4) == 0 ? 0 : 21, free(), any, random.nextInt(COUNTER), n);
                return;
            case 9:
            case 10:
                add(guard(), 30 + random.nextInt(7), random.nextInt(4) * 4 + random.nextInt(LOOPS), any,
                    random.nextInt(COUNTER), n);
                return;
            default:
                int does = 2 + random.nextInt(20);
                boolean divides = does == 7 || does == 8;
                add(guard(), does, free(), any, divides ? DIVISOR : random.nextInt(COUNTER),
                    does == 3 ? random.nextInt(7) : n);
        }
    }

    private final class Thread {
        final int[] registers = new int[16];
        final boolean[] predicates = new boolean[4];
        final int[] shared;
        final int block;
        final int number;
        int place;
        boolean ended;

        Thread(int block, int number, int[] shared) {
            this.block = block;
            this.number = number;
            this.shared = shared;
        }

        /** Goes on up to the next barrier, or to its end. */
        void go() {
            boolean waits = false;
            while (!waits && !ended) {
                long word = words.get(place);
                place++;
                int g = (int) (word >> 20) & 15;
                if (g < 8 || predicates[g & 3] == (g < 12)) {
                    did++;
                    waits = (word & 255) == 1;
                    ended = (word & 255) == 0;
                    act((int) word & 255, (int) (word >> 8) & 15, (int) (word >> 12) & 15, (int) (word >> 16) & 15,
                        (int) (word >> 32));
                }
            }
        }

        void act(int op, int d, int a, int b, int n) {
            if (op >= 50 && op <= 59) {
                boolean here = op == 52 || op == 53 || op > 57;
                remember(op, d, here ? shared : global, registers[a] + n, registers[b]);
            } else if (op >= 30 && op <= 36) {
                predicates[d & 3] = test(op, a, b, n);
            } else if (op == 42) {
                place = registers[a];
            } else if (op == 40 || op == 41) {
                registers[d] = op == 41 ? place : registers[d];
                place = n;
            } else if (op > 1) {
                registers[d] = value(op, registers[a], registers[b], n);
            }
        }

        void remember(int op, int d, int[] memory, int k, int b) {
            int old = memory[k];
            switch (op) {
                case 51, 53, 56, 59 -> memory[k] = b;
                case 54, 58 -> memory[k] = old + b;
                case 55 -> memory[k] = Math.max(old, b);
                case 57 -> memory[k] = old == registers[d] ? b : old;
                default -> memory[k] = old;
            }
            if (op != 51 && op != 53) {
                registers[d] = old;
            }
        }

        boolean test(int op, int a, int b, int n) {
            return switch (op) {
                case 30 -> registers[a] < registers[b];
                case 31 -> registers[a] == registers[b];
                case 32 -> registers[a] < n;
                case 33 -> registers[a] == n;
                case 34 -> predicates[a & 3] && predicates[b & 3];
                case 35 -> predicates[a & 3] || predicates[b & 3];
                default -> !predicates[a & 3];
            };
        }

        int value(int op, int a, int b, int n) {
            int[] about = {number, block, threads, blocks, number % lanes, number / lanes, lanes};
            return switch (op) {
                case 2 -> n;
                case 3 -> about[n];
                case 4 -> a + b;
                case 5 -> a - b;
                case 6 -> a * b;
                case 7 -> a / b;
                case 8 -> a % b;
                case 9 -> a & b;
                case 10 -> a | b;
                case 11 -> a ^ b;
                case 12 -> a << (b & 31);
                case 13 -> a >>> (b & 31);
                case 14 -> a >> (b & 31);
                case 15 -> Math.min(a, b);
                case 16 -> Math.max(a, b);
                case 17 -> (int) Math.floorDiv((long) a * b, 1L << 32);
                case 18 -> a + n;
                case 19 -> a * n;
                case 20 -> a & n;
                case 21 -> predicates[n & 3] ? a : b;
                default -> a;
            };
        }
    }

    /** Block by block, and in a block thread by thread from barrier to barrier, in an order of no meaning. */
    private void oneAtATime() {
        List<Integer> order = new ArrayList<>();
        for (int block = 0; block < blocks; block++) {
            order.add(block);
        }
        Collections.shuffle(order, random);
        for (int block : order) {
            int[] shared = new int[64];
            List<Thread> left = new ArrayList<>();
            for (int number = 0; number < threads; number++) {
                left.add(new Thread(block, number, shared));
            }
            while (!left.isEmpty()) {
                Collections.shuffle(left, random);
                left.forEach(Thread::go);
                left.removeIf(thread -> thread.ended);
            }
        }
    }
}
