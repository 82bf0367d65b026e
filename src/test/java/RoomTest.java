import java.lang.management.ManagementFactory;
import java.lang.reflect.Array;
import java.lang.reflect.Field;
import java.lang.reflect.Modifier;
import java.util.Collections;
import java.util.IdentityHashMap;
import java.util.Set;

/** All calls of one run live in one room: an object is small, and its calls make nothing more. */
public final class RoomTest {
    private static final int CALLS = 512;

    public static void main(String[] args) throws Exception {
        held();
        made();
        Due.end();
    }

    private static void held() throws Exception {
        Set<Object> seen = Collections.newSetFromMap(new IdentityHashMap<>());
        long elements = elements(new FarBoards(), seen);
        Due.holds("an object is of " + seen.size() + " objects and arrays", seen.size() <= 60);
        Due.holds("it has " + elements + " fields and elements", elements <= 14000);
    }

    private static long elements(Object o, Set<Object> seen) throws Exception {
        if (o == null || !seen.add(o)) return 0;
        if (o.getClass().isArray()) {
            long sum = Array.getLength(o);
            boolean deep = !o.getClass().getComponentType().isPrimitive();
            for (int i = 0; deep && i < Array.getLength(o); i++) sum += elements(Array.get(o, i), seen);
            return sum;
        }
        long sum = 0;
        for (Field f : o.getClass().getDeclaredFields()) {
            if (Modifier.isStatic(f.getModifiers())) continue;
            sum++;
            f.setAccessible(true);
            if (!f.getType().isPrimitive()) sum += elements(f.get(o), seen);
        }
        return sum;
    }

    /** The second run of the same calls, so that what the machine itself makes for the first one does not count. */
    private static void made() {
        com.sun.management.ThreadMXBean threads = (com.sun.management.ThreadMXBean) ManagementFactory.getThreadMXBean();
        long id = Thread.currentThread().getId();
        long bytes = 0;
        for (int round = 0; round < 3; round++) {
            FarBoards x = new FarBoards();
            long before = threads.getThreadAllocatedBytes(id);
            calls(x);
            bytes = threads.getThreadAllocatedBytes(id) - before;
        }
        Due.holds("calls made " + bytes + " bytes", bytes <= 2048);
    }

    private static void calls(FarBoards x) {
        for (int i = 0; i < CALLS / 20; i++) {
            x.board(9, 3);
            x.sheet(i % 8, i % 3, 60);
            x.set(i % 8, 0, 3);
            x.copy(i % 8, 0, i % 8, 1, 30);
            x.paints(0, i % 8, 0, 9);
            x.far(270, 100, 1);
            x.way(270, 100, 3);
            x.walks(0, 270, 30);
            x.around(0, 3);
            x.grown(10, 60, 3);
            x.feed(0x35283230_28323066L, 8);
            x.feed(0x2929, 2);
            x.run();
            x.clashes();
            x.coloured(16, 4);
            x.found(16, 4, 15);
            x.steps(6, 12, 50);
            x.alike(0);
            x.ask(270, 0);
            x.count(6);
        }
    }
}
