import java.lang.management.ManagementFactory;
import java.lang.reflect.Array;
import java.lang.reflect.Field;
import java.lang.reflect.Modifier;
import java.util.IdentityHashMap;
import java.util.Map;

/** What one object holds, and that no call makes anything: all calls of a run live in one room. */
public final class RoomTest {
    private static final int MOST_ELEMENTS = 3500;
    private static final int MOST_OBJECTS = 60;
    private static final long MOST_BYTES = 20000;

    public static void main(String[] args) throws IllegalAccessException {
        PlaneColumn x = new PlaneColumn();
        Map<Object, Boolean> seen = new IdentityHashMap<>();
        int elements = elementsOf(x, seen);
        long bytes = bytesOfCalls(x);
        Map<Object, Boolean> later = new IdentityHashMap<>();
        boolean right = elements <= MOST_ELEMENTS && seen.size() <= MOST_OBJECTS && bytes <= MOST_BYTES
            && elementsOf(x, later) == elements && later.size() == seen.size();
        System.out.println("RoomTest: " + seen.size() + " objects, " + elements + " fields and elements, " + bytes
            + " bytes made by calls" + (right ? "" : ": too much"));
        if (!right) {
            System.exit(1);
        }
    }

    private static int elementsOf(Object one, Map<Object, Boolean> seen) throws IllegalAccessException {
        if (one == null || seen.put(one, true) != null) {
            return 0;
        }
        if (one.getClass().isArray()) {
            int all = Array.getLength(one);
            for (int i = 0; one instanceof Object[] && i < Array.getLength(one); i++) {
                all += elementsOf(Array.get(one, i), seen);
            }
            return all;
        }
        int all = 0;
        for (Field f : one.getClass().getDeclaredFields()) {
            if (!Modifier.isStatic(f.getModifiers())) {
                f.setAccessible(true);
                all += 1 + (f.getType().isPrimitive() ? 0 : elementsOf(f.get(one), seen));
            }
        }
        return all;
    }

    private static long bytesOfCalls(PlaneColumn x) {
        com.sun.management.ThreadMXBean bean = (com.sun.management.ThreadMXBean) ManagementFactory.getThreadMXBean();
        long id = Thread.currentThread().getId();
        calls(x);
        bean.getThreadAllocatedBytes(id);
        long before = bean.getThreadAllocatedBytes(id);
        for (int i = 0; i < 10; i++) {
            calls(x);
        }
        return bean.getThreadAllocatedBytes(id) - before;
    }

    private static void calls(PlaneColumn x) {
        x.end(0);
        x.sign('9' << 24 | 'x' << 16 | '1' << 8 | '0');
        x.column();
        for (int i = 0; i < 64; i++) {
            x.adds(i * 37 & 255);
        }
        x.puts(3, 3);
        x.swaps(0, 1);
        x.reverses(0, 60);
        x.cuts(63);
        x.level(1);
        x.spot(1, 2);
        x.from(1, 2);
        x.runs();
        x.thrift();
        x.kth(0, 60, 3);
        x.rank(9, 60);
        x.select(9, 3);
        x.band(0, 60, 3, 200);
        x.below(0, 60, 100);
        x.above(0, 60, 100);
        x.sums(0, 60, 9);
        x.often(0, 60, 1);
        x.mode(0, 60);
        x.across(0, 60, 99, 9);
        x.turned(0, 60);
        x.spread(0, 60, 4);
        x.nearest(0, 60);
        x.dense(0, 60, 9);
        x.farthest(0, 60, 9);
        x.fit(0, 60, 999);
        x.gap(0, 60);
        x.narrow(9, 2);
        x.lone(0, 60);
        x.rises(0, 60);
        x.marks(0, 60, 9);
        x.common(0, 60, 3, 50);
        x.lacking(0, 60, 3, 50);
        x.both(0, 60, 3, 50, 70);
        x.same(0, 60, 3, 50);
        x.count(3);
        x.planes();
    }
}
