import java.lang.management.ManagementFactory;
import java.lang.reflect.Array;
import java.lang.reflect.Field;
import java.lang.reflect.Modifier;
import java.util.ArrayDeque;
import java.util.Collections;
import java.util.Deque;
import java.util.IdentityHashMap;
import java.util.Set;

/** All calls of a run live in one room: counts what an object holds, and what its calls make. */
public final class RoomTest {
    private static int objects;
    private static int elements;

    public static void main(String[] args) throws IllegalAccessException {
        WarpMill small = new WarpMill();
        measure(small);
        System.out.println("a new one: " + objects + " objects, " + elements + " fields and elements");
        Check.yes("a new one is small", objects < 100 && elements < 7000);

        WarpMill m = new WarpMill();
        fullLaunch(m);
        measure(m);
        System.out.println("the largest: " + objects + " objects, " + elements + " fields and elements");
        Check.yes("the largest has room", objects < 7000 && elements < 150000);
        int before = elements;

        long bytes = allocated();
        for (int k = 0; k < 30; k++) {
            fullLaunch(m);
            m.sizes(1 << k % 6, 1 + k % 16, 1 + k % 8, 4, 2, 512);
        }
        bytes = allocated() - bytes;
        System.out.println("30 launches more: " + bytes + " bytes");
        // 4 words and little else for each launch.
        Check.yes("what there is is used again", bytes < 30 * 4 * 100 + 20000);
        measure(m);
        Check.yes("nothing is kept that was not", elements <= before + 100);
        Check.end();
    }

    /** All threads that there can be ask for global memory, each for a line of its own. */
    private static void fullLaunch(WarpMill m) {
        m.sizes(32, 16, 8, 32, 1, 4096);
        m.word(0, Check.w(3, 1, 0, 0, 0));
        m.word(1, Check.w(19, 1, 1, 0, 8));
        m.word(2, Check.w(54, 2, 1, 1, 0));
        m.word(3, Check.w(40, 0, 0, 0, 2));
        m.launch(64, 512);
        m.run(500);
        Check.due("all ask", m.state(19) > 4000 ? 1 : 0, 1);
        Check.yes("stop", m.stop());
    }

    private static long allocated() {
        com.sun.management.ThreadMXBean bean = (com.sun.management.ThreadMXBean) ManagementFactory.getThreadMXBean();
        return bean.getThreadAllocatedBytes(Thread.currentThread().getId());
    }

    private static void measure(Object root) throws IllegalAccessException {
        objects = 0;
        elements = 0;
        Set<Object> known = Collections.newSetFromMap(new IdentityHashMap<>());
        Deque<Object> left = new ArrayDeque<>();
        left.add(root);
        known.add(root);
        while (!left.isEmpty()) {
            Object o = left.remove();
            objects++;
            if (o.getClass().isArray()) {
                elements += Array.getLength(o);
                for (int k = 0; !o.getClass().getComponentType().isPrimitive() && k < Array.getLength(o); k++) {
                    follow(Array.get(o, k), known, left);
                }
                continue;
            }
            for (Field f : o.getClass().getDeclaredFields()) {
                if (!Modifier.isStatic(f.getModifiers())) {
                    elements++;
                    f.setAccessible(true);
                    if (!f.getType().isPrimitive()) {
                        follow(f.get(o), known, left);
                    }
                }
            }
        }
    }

    private static void follow(Object o, Set<Object> known, Deque<Object> left) {
        if (o != null && known.add(o)) {
            left.add(o);
        }
    }
}
