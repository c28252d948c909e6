import java.lang.management.ManagementFactory;
import java.lang.reflect.Array;
import java.lang.reflect.Field;
import java.lang.reflect.Modifier;
import java.util.IdentityHashMap;
import java.util.Map;

/** The calls of one run live in one room: what an object holds is small, and no call adds to it. */
public final class RoomTest {
    /** 512 objects of this size are fewer than 7.3 million fields and elements. */
    private static final int MOST_ELEMENTS = 14000;
    private static final int MOST_OBJECTS = 100;

    private static int elements;

    public static void main(String[] args) throws IllegalAccessException {
        Map<Object, Boolean> seen = new IdentityHashMap<>();
        count(new FoldedFamily(4), seen);
        Check.due(elements + " elements are few", elements <= MOST_ELEMENTS, true);
        Check.due(seen.size() + " objects are few", seen.size() <= MOST_OBJECTS, true);

        FoldedFamily x = new FoldedFamily(4);
        useAll(x);
        com.sun.management.ThreadMXBean threads =
                (com.sun.management.ThreadMXBean) ManagementFactory.getThreadMXBean();
        long self = Thread.currentThread().getId();
        threads.getThreadAllocatedBytes(self);
        long before = threads.getThreadAllocatedBytes(self);
        useAll(x);
        long made = threads.getThreadAllocatedBytes(self) - before;
        Check.due("calls made " + made + " bytes, few", made <= 2000, true);
        Check.end();
    }

    private static void count(Object object, Map<Object, Boolean> seen)
            throws IllegalAccessException {
        if (object == null || seen.put(object, true) != null) {
            return;
        }
        if (object.getClass().isArray()) {
            elements += Array.getLength(object);
            return;
        }
        for (Field field : object.getClass().getDeclaredFields()) {
            if (!Modifier.isStatic(field.getModifiers())) {
                elements++;
                field.setAccessible(true);
                if (!field.getType().isPrimitive()) {
                    count(field.get(object), seen);
                }
            }
        }
    }

    private static void useAll(FoldedFamily x) {
        for (int run = 0; run < 9; run++) {
            x.clear();
            x.erase();
            for (int c = 0; c < 8; c++) {
                x.column(c % 2 == 0 ? '(' : ')', c * 1234567);
            }
            x.build();
            x.feed(run * 7654321, 12);
            x.feed(run * 1234567, 12);
            x.value(0, 3, 12);
            x.scan(12, -1000);
            x.hit(1, 3);
            x.derived(0, 5, 1);
            x.kind(3);
            x.node(3);
            x.target(3, 1);
            x.step(3, 1);
            x.emits(5, 1, 1);
        }
    }
}
