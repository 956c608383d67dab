import java.util.ArrayList;
import java.util.HashMap;
import java.util.HashSet;
import java.util.LinkedHashMap;
import java.util.List;
import java.util.Map;
import java.util.NoSuchElementException;
import java.util.Set;
import java.util.TreeSet;

/**
 * The document once more, as literally as can be and without a thought for speed: what WarpMill
 * answers is held against this one by RandomRunsTest. It shares no code and no way of holding the
 * state with it, so a slip in one shows as a difference.
 */
final class PlainMill {
    static final class Thread {
        final int[] regs = new int[16];
        final boolean[] preds = new boolean[4];
        int place;
        int number;
        boolean ended;
        boolean waits;
    }

    static final class Warp {
        Block block;
        int number;
        final List<Thread> threads = new ArrayList<>();
        final Map<String, Integer> ticks = new HashMap<>();

        int tick(String name) {
            return ticks.getOrDefault(name, 0);
        }
    }

    static final class Block {
        int number;
        final List<Warp> warps = new ArrayList<>();
        final int[] shared = new int[64];
        boolean left;

        List<Thread> threads() {
            List<Thread> all = new ArrayList<>();
            for (Warp w : warps) {
                all.addAll(w.threads);
            }
            return all;
        }
    }

    static final class Unit {
        Warp[] slots;
        int divider;
        int shared;
        int last;
        int went;
    }

    static final class Request {
        int time;
        int op;
        int address;
        int b;
        int wasD;
        int d;
        Thread thread;
        Warp warp;
    }

    int lanes = 4;
    int slots = 4;
    int unitCount = 2;
    int banks = 4;
    int gates = 2;
    int[] global = new int[512];
    final long[] kernel = new long[128];
    Map<Integer, Integer> cache = new HashMap<>();
    Map<Integer, Integer> gateTicks = new HashMap<>();
    List<Unit> units = freshUnits();
    List<Request> pending = new ArrayList<>();
    List<Block> placed = new ArrayList<>();
    boolean launched;
    boolean over;
    int blocks;
    int threads;
    int next;
    int total;
    int[] told = new int[13];

    private List<Unit> freshUnits() {
        List<Unit> made = new ArrayList<>();
        for (int u = 0; u < unitCount; u++) {
            Unit unit = new Unit();
            unit.slots = new Warp[slots];
            unit.last = slots - 1;
            made.add(unit);
        }
        return made;
    }

    private boolean underWay() {
        return launched && !over;
    }

    boolean sizes(int lanes, int slots, int units, int banks, int gates, int ints) {
        boolean fits = Set.of(1, 2, 4, 8, 16, 32).contains(lanes) && slots >= 1 && slots <= 16
            && units >= 1 && units <= 8 && Set.of(1, 2, 4, 8, 16, 32).contains(banks)
            && Set.of(1, 2, 4, 8).contains(gates) && Set.of(512, 1024, 2048, 4096).contains(ints);
        if (!fits || underWay()) {
            return false;
        }
        this.lanes = lanes;
        this.slots = slots;
        this.unitCount = units;
        this.banks = banks;
        this.gates = gates;
        global = java.util.Arrays.copyOf(global, ints);
        cache.clear();
        forgetLaunch();
        launched = false;
        return true;
    }

    private void forgetLaunch() {
        units = freshUnits();
        gateTicks.clear();
        placed.clear();
        pending.clear();
        told = new int[13];
    }

    boolean word(int k, long w) {
        if (underWay() || k < 0 || k > 127) {
            return false;
        }
        kernel[k] = w;
        return true;
    }

    boolean set(int k, int v) {
        if (underWay() || k < 0 || k >= global.length) {
            return false;
        }
        global[k] = v;
        return true;
    }

    boolean launch(int blocks, int threads) {
        if (underWay() || blocks < 1 || blocks > 64 || threads < 1 || threads > lanes * slots) {
            return false;
        }
        forgetLaunch();
        launched = true;
        over = false;
        this.blocks = blocks;
        this.threads = threads;
        next = 0;
        return true;
    }

    int run(int n) {
        if (n < 1 || n > 500) {
            throw new IllegalArgumentException();
        }
        if (total >= 20000) {
            throw new IllegalStateException();
        }
        for (int i = 0; i < n && underWay() && total < 20000; i++) {
            cycle();
        }
        return state(0);
    }

    boolean stop() {
        if (!underWay()) {
            return false;
        }
        launched = false;
        pending.clear();
        placed.clear();
        for (Unit unit : units) {
            unit.slots = new Warp[slots];
        }
        return true;
    }

    int global(int k) {
        if (k < 0 || k >= global.length) {
            throw new NoSuchElementException();
        }
        return global[k];
    }

    int state(int what) {
        if (what == 0) {
            boolean trap = told[8] != 0;
            return !launched ? 0 : trap ? (over ? 3 : 4) : over ? 2 : 1;
        }
        if (what == 7) {
            return total;
        }
        if (what >= 1 && what <= 12) {
            return told[what];
        }
        int[] sizes = {lanes, slots, unitCount, banks, gates, global.length, pending.size()};
        return what >= 13 && what <= 19 ? sizes[what - 13] : -1;
    }

    int unit(int unit, int what) {
        if (unit < 0 || unit >= unitCount || what < 0 || what > 3) {
            return -1;
        }
        Unit u = units.get(unit);
        return new int[] {u.divider, u.shared, u.last, u.went}[what];
    }

    int cached(int gate, int place) {
        if (gate < 0 || gate >= gates || place < 0 || place > 4) {
            return -1;
        }
        return place == 4 ? gateTicks.getOrDefault(gate, 0) : cache.getOrDefault(gate * 4 + place, -1);
    }

    int slot(int unit, int slot, int what) {
        if (unit < 0 || unit >= unitCount || slot < 0 || slot >= slots || what < 0 || what > 24) {
            return -1;
        }
        Warp w = units.get(unit).slots[slot];
        if (w == null) {
            return what < 2 ? -1 : 0;
        }
        if (what == 0) {
            return w.block.number;
        }
        if (what == 1) {
            return w.number;
        }
        if (what == 2) {
            return (int) w.threads.stream().filter(t -> t.ended).count();
        }
        if (what == 3) {
            return (int) w.threads.stream().filter(t -> t.waits).count();
        }
        return w.tick(what == 4 ? "memory" : what < 21 ? "r" + (what - 5) : "p" + (what - 21));
    }

    int lane(int unit, int slot, int lane, int r) {
        boolean there = unit >= 0 && unit < unitCount && slot >= 0 && slot < slots
            && units.get(unit).slots[slot] != null;
        if (!there || lane < 0 || lane >= units.get(unit).slots[slot].threads.size() || r < 0 || r > 20) {
            throw new NoSuchElementException();
        }
        Thread t = units.get(unit).slots[slot].threads.get(lane);
        return r < 16 ? t.regs[r] : r == 16 ? t.place : t.preds[r - 17] ? 1 : 0;
    }

    int shared(int block, int k) {
        for (Block b : placed) {
            if (b.number == block && !b.left && k >= 0 && k < 64) {
                return b.shared[k];
            }
        }
        throw new NoSuchElementException();
    }

    private void cycle() {
        int t = told[1];
        List<Request> now = new ArrayList<>();
        for (Request r : pending) {
            if (r.time == t) {
                now.add(r);
            }
        }
        pending.removeAll(now);
        now.forEach(this::finish);
        if (told[8] == 0) {
            dispatch();
            for (Unit unit : units) {
                if (told[8] == 0) {
                    unitStep(unit, t);
                }
            }
        }
        told[1]++;
        total++;
        over = pending.isEmpty() && (told[8] != 0 || told[6] == blocks);
    }

    private void finish(Request r) {
        int old = global[r.address];
        if (r.op == 51 || r.op == 56) {
            global[r.address] = r.b;
        } else if (r.op == 54) {
            global[r.address] += r.b;
        } else if (r.op == 55) {
            global[r.address] = Math.max(old, r.b);
        } else if (r.op == 57 && old == r.wasD) {
            global[r.address] = r.b;
        }
        if (r.op != 51 && !r.warp.block.left) {
            r.thread.regs[r.d] = old;
        }
    }

    private void dispatch() {
        int warps = (threads + lanes - 1) / lanes;
        while (next < blocks) {
            Unit room = null;
            for (Unit unit : units) {
                long free = java.util.Arrays.stream(unit.slots).filter(w -> w == null).count();
                if (free >= warps) {
                    room = unit;
                    break;
                }
            }
            if (room == null) {
                return;
            }
            place(room, warps);
        }
    }

    private void place(Unit unit, int warps) {
        Block block = new Block();
        block.number = next++;
        placed.add(block);
        int number = 0;
        for (int w = 0; w < warps; w++) {
            Warp warp = new Warp();
            warp.block = block;
            warp.number = w;
            while (warp.threads.size() < lanes && number < threads) {
                Thread thread = new Thread();
                thread.number = number++;
                warp.threads.add(thread);
            }
            block.warps.add(warp);
            int s = 0;
            while (unit.slots[s] != null) {
                s++;
            }
            unit.slots[s] = warp;
        }
    }

    private void unitStep(Unit unit, int t) {
        for (int k = 1; k <= slots; k++) {
            int s = (unit.last + k) % slots;
            if (unit.slots[s] != null && ready(unit, unit.slots[s], t)) {
                unit.last = s;
                go(unit, unit.slots[s], t);
                return;
            }
        }
    }

    private List<Thread> group(Warp w) {
        List<Thread> found = new ArrayList<>();
        int least = Integer.MAX_VALUE;
        for (Thread t : w.threads) {
            if (!t.ended && !t.waits) {
                least = Math.min(least, t.place);
            }
        }
        for (Thread t : w.threads) {
            if (!t.ended && !t.waits && t.place == least) {
                found.add(t);
            }
        }
        return found;
    }

    private static final String RANGES_A = "4-21 30-33 42-42 50-59 73-73";
    private static final String RANGES_B = "4-17 21-21 30-31 51-51 53-59";
    private static final String WRITES_D = "2-21 41-41 50-50 52-52 54-59 72-73";
    private static final String WRITES_P = "30-36 70-71";
    private static final String ALL = "0-21 30-36 40-42 50-59 70-73";
    private static final String SHARED = "52-53 58-59";

    private static final Map<String, boolean[]> OPS = new HashMap<>();

    private static boolean among(int op, String ranges) {
        return OPS.computeIfAbsent(ranges, PlainMill::ops)[op];
    }

    private static boolean[] ops(String ranges) {
        boolean[] ops = new boolean[256];
        for (String range : ranges.split(" ")) {
            String[] ends = range.split("-");
            java.util.Arrays.fill(ops, Integer.parseInt(ends[0]), Integer.parseInt(ends[1]) + 1, true);
        }
        return ops;
    }

    private static int op(long w) {
        return (int) (w & 0xff);
    }

    private static int d(long w) {
        return (int) (w >>> 8 & 0xf);
    }

    private static int a(long w) {
        return (int) (w >>> 12 & 0xf);
    }

    private static int b(long w) {
        return (int) (w >>> 16 & 0xf);
    }

    private static int g(long w) {
        return (int) (w >>> 20 & 0xf);
    }

    private static int n(long w) {
        return (int) (w >>> 32);
    }

    private static boolean isWord(long w) {
        return among(op(w), ALL) && (op(w) != 3 || n(w) >= 0 && n(w) <= 6);
    }

    private static String written(long w) {
        return among(op(w), WRITES_D) ? "r" + d(w) : among(op(w), WRITES_P) ? "p" + (d(w) & 3) : null;
    }

    private static Set<String> needs(long w) {
        Set<String> needed = new TreeSet<>();
        int op = op(w);
        if (g(w) >= 8) {
            needed.add("p" + (g(w) & 3));
        }
        if (among(op, RANGES_A)) {
            needed.add("r" + a(w));
        }
        if (among(op, RANGES_B)) {
            needed.add("r" + b(w));
        }
        if (op == 57) {
            needed.add("r" + d(w));
        }
        if (op == 21) {
            needed.add("p" + (n(w) & 3));
        }
        if (among(op, "34-36 70-72")) {
            needed.add("p" + (a(w) & 3));
        }
        if (among(op, "34-35")) {
            needed.add("p" + (b(w) & 3));
        }
        if (written(w) != null) {
            needed.add(written(w));
        }
        if (among(op, "0-1 50-59")) {
            needed.add("memory");
        }
        return needed;
    }

    private boolean ready(Unit unit, Warp w, int t) {
        List<Thread> group = group(w);
        if (group.isEmpty()) {
            return false;
        }
        int place = group.get(0).place;
        if (place < 0 || place > 127 || !isWord(kernel[place])) {
            return true;
        }
        long word = kernel[place];
        for (String name : needs(word)) {
            if (w.tick(name) > t) {
                return false;
            }
        }
        if (among(op(word), "7-8") && unit.divider > t) {
            return false;
        }
        return !(among(op(word), SHARED) && unit.shared > t);
    }

    private void trap(int why, Warp w, Thread thread) {
        told[8] = why;
        told[9] = w.block.number;
        told[10] = thread.number;
        told[11] = thread.place;
    }

    private void go(Unit unit, Warp w, int t) {
        List<Thread> group = group(w);
        int place = group.get(0).place;
        if (place < 0 || place > 127) {
            trap(1, w, group.get(0));
            return;
        }
        long word = kernel[place];
        if (!isWord(word)) {
            trap(2, w, group.get(0));
            return;
        }
        List<Thread> doers = new ArrayList<>();
        for (Thread thread : group) {
            if (g(word) < 8 || thread.preds[g(word) & 3] == ((g(word) & 4) == 0)) {
                doers.add(thread);
            }
        }
        int op = op(word);
        for (Thread thread : doers) {
            if (among(op, "7-8") && thread.regs[b(word)] == 0) {
                trap(3, w, thread);
                return;
            }
            int bound = among(op, SHARED) ? 64 : global.length;
            int k = thread.regs[a(word)] + n(word);
            if (among(op, "50-59") && (k < 0 || k >= bound)) {
                trap(4, w, thread);
                return;
            }
        }
        told[2]++;
        told[3] += doers.size();
        told[12] += doers.size() < group.size() ? 1 : 0;
        unit.went++;
        for (Thread thread : group) {
            thread.place = place + 1;
        }
        int wait = among(op, "6-6 17-17 19-19") ? 3 : among(op, "7-8") ? 8 : op >= 70 ? 2 : 1;
        if (among(op, SHARED)) {
            wait = doShared(unit, w, word, doers, t);
        } else if (among(op, "50-57")) {
            wait = doGlobal(w, word, doers, t);
        } else {
            doPlain(w, word, doers, place);
        }
        if (written(word) != null) {
            w.ticks.put(written(word), t + wait);
        }
        if (among(op, "50-59")) {
            w.ticks.put("memory", t + wait);
        }
        if (among(op, "7-8")) {
            unit.divider = t + 8;
        }
        settle(unit, w.block);
    }

    private void settle(Unit unit, Block block) {
        List<Thread> alive = new ArrayList<>(block.threads());
        alive.removeIf(t -> t.ended);
        if (alive.isEmpty()) {
            block.left = true;
            told[6]++;
            for (int s = 0; s < slots; s++) {
                if (unit.slots[s] != null && unit.slots[s].block == block) {
                    unit.slots[s] = null;
                }
            }
        } else if (alive.stream().allMatch(t -> t.waits)) {
            alive.forEach(t -> t.waits = false);
        }
    }

    private int doShared(Unit unit, Warp w, long word, List<Thread> doers, int t) {
        int op = op(word);
        Map<Integer, List<Integer>> asked = new HashMap<>();
        for (Thread thread : doers) {
            int k = thread.regs[a(word)] + n(word);
            asked.computeIfAbsent(k % banks, bank -> new ArrayList<>()).add(k);
            int old = w.block.shared[k];
            int b = thread.regs[b(word)];
            if (op != 52) {
                w.block.shared[k] = op == 58 ? old + b : b;
            }
            if (op != 53) {
                thread.regs[d(word)] = old;
            }
        }
        int m = 0;
        for (List<Integer> ints : asked.values()) {
            m = Math.max(m, op >= 58 ? ints.size() : new HashSet<>(ints).size());
        }
        unit.shared = m == 0 ? t + 1 : t + m;
        return 2 + m;
    }

    private int doGlobal(Warp w, long word, List<Thread> doers, int t) {
        Map<Integer, Integer> doneAt = new LinkedHashMap<>();
        Set<Integer> asked = new HashSet<>();
        int more = 0;
        int latest = t + 1;
        for (Thread thread : doers) {
            int k = thread.regs[a(word)] + n(word);
            int line = k / 8;
            if (!doneAt.containsKey(line)) {
                doneAt.put(line, fetch(line, t));
            }
            latest = Math.max(latest, doneAt.get(line));
            if (!asked.add(k) && op(word) >= 54) {
                more++;
            }
            Request r = new Request();
            r.time = doneAt.get(line);
            r.op = op(word);
            r.address = k;
            r.b = thread.regs[b(word)];
            r.d = d(word);
            r.wasD = thread.regs[r.d];
            r.thread = thread;
            r.warp = w;
            pending.add(r);
        }
        return latest - t + more;
    }

    private int fetch(int line, int t) {
        int gate = line % gates;
        int key = gate * 4 + line / gates % 4;
        int s = Math.max(t, gateTicks.getOrDefault(gate, 0));
        boolean hit = cache.getOrDefault(key, -1) == line;
        told[hit ? 4 : 5]++;
        cache.put(key, line);
        gateTicks.put(gate, hit ? s + 1 : s + 5);
        return hit ? s + 4 : s + 12;
    }

    private void doPlain(Warp w, long word, List<Thread> doers, int place) {
        int op = op(word);
        boolean any = doers.stream().anyMatch(t -> t.preds[a(word) & 3]);
        boolean all = doers.stream().allMatch(t -> t.preds[a(word) & 3]);
        int many = (int) doers.stream().filter(t -> t.preds[a(word) & 3]).count();
        Map<Integer, Integer> oldA = new HashMap<>();
        for (Thread thread : doers) {
            oldA.put(thread.number % lanes, thread.regs[a(word)]);
        }
        for (Thread t : doers) {
            if (op == 0) {
                t.ended = true;
            } else if (op == 1) {
                t.waits = true;
            } else if (op == 40 || op == 41) {
                t.regs[d(word)] = op == 41 ? place + 1 : t.regs[d(word)];
                t.place = n(word);
            } else if (op == 42) {
                t.place = t.regs[a(word)];
            } else if (op == 70 || op == 71) {
                t.preds[d(word) & 3] = op == 70 ? any : all;
            } else if (op == 72) {
                t.regs[d(word)] = many;
            } else if (op == 73) {
                int own = t.number % lanes;
                t.regs[d(word)] = oldA.getOrDefault(own ^ (n(word) & (lanes - 1)), oldA.get(own));
            } else if (op >= 30) {
                t.preds[d(word) & 3] = test(t, word);
            } else {
                t.regs[d(word)] = value(w, t, word);
            }
        }
    }

    private static boolean test(Thread t, long word) {
        int a = t.regs[a(word)];
        int b = t.regs[b(word)];
        boolean pa = t.preds[a(word) & 3];
        boolean pb = t.preds[b(word) & 3];
        return switch (op(word)) {
            case 30 -> a < b;
            case 31 -> a == b;
            case 32 -> a < n(word);
            case 33 -> a == n(word);
            case 34 -> pa && pb;
            case 35 -> pa || pb;
            default -> !pa;
        };
    }

    private int value(Warp w, Thread t, long word) {
        int a = t.regs[a(word)];
        int b = t.regs[b(word)];
        int n = n(word);
        int[] numbers = {t.number, w.block.number, threads, blocks, t.number % lanes, w.number, lanes};
        return switch (op(word)) {
            case 2 -> n;
            case 3 -> numbers[n];
            case 4 -> a + b;
            case 5 -> a - b;
            case 6 -> (int) ((long) a * b);
            case 7 -> (int) ((long) a / b);
            case 8 -> (int) ((long) a % b);
            case 9 -> a & b;
            case 10 -> a | b;
            case 11 -> a ^ b;
            case 12 -> a << (b & 31);
            case 13 -> a >>> (b & 31);
            case 14 -> a >> (b & 31);
            case 15 -> a < b ? a : b;
            case 16 -> a > b ? a : b;
            case 17 -> (int) (Math.multiplyHigh((long) a << 32, (long) b << 32) >> 32);
            case 18 -> a + n;
            case 19 -> a * n;
            case 20 -> a & n;
            default -> t.preds[n & 3] ? a : b;
        };
    }
}
