import java.lang.reflect.Array;
import java.lang.reflect.Field;
import java.lang.reflect.Modifier;
import java.util.Collections;
import java.util.IdentityHashMap;
import java.util.Set;

/** The one room in which all calls of a run live: what an object holds, and that calls make no more. */
public final class RoomTest {
    private static final int CALLS = 512;
    private static final long MOST_OBJECTS = 600_000;
    private static final long MOST_ELEMENTS = 7_300_000;

    private long objects = 0;
    private long elements = 0;
    private final Set<Object> seen = Collections.newSetFromMap(new IdentityHashMap<>());

    public static void main(String[] args) throws Exception {
        RoomTest fresh = new RoomTest();
        fresh.walk(new PrefixCodes());
        if (fresh.elements * CALLS > MOST_ELEMENTS || fresh.objects * CALLS > MOST_OBJECTS) {
            Check.tell("a new object holds " + fresh.objects + " objects, " + fresh.elements + " elements");
        }
        // Of several the least: the machine itself makes objects at times, at the first calls above all.
        long byMeasuring = Long.MAX_VALUE;
        long byCalls = Long.MAX_VALUE;
        for (int i = 0; i < 10; i++) {
            byMeasuring = Math.min(byMeasuring, -made() + made());
            byCalls = Math.min(byCalls, madeByCalls());
        }
        Check.due("bytes that calls make, and measuring", byCalls, byMeasuring);
        Check.end();
    }

    private void walk(Object object) throws IllegalAccessException {
        if (object == null || !seen.add(object)) {
            return;
        }
        objects++;
        Class<?> type = object.getClass();
        if (type.isArray()) {
            elements += Array.getLength(object);
            for (int i = 0; i < Array.getLength(object) && !type.getComponentType().isPrimitive(); i++) {
                walk(Array.get(object, i));
            }
            return;
        }
        for (Field field : type.getDeclaredFields()) {
            if (!Modifier.isStatic(field.getModifiers())) {
                elements++;
                field.setAccessible(true);
                if (!field.getType().isPrimitive()) {
                    walk(field.get(object));
                }
            }
        }
    }

    /** Once all twelve codes are there, no call that answers makes an object. */
    private static long madeByCalls() {
        PrefixCodes x = new PrefixCodes();
        Check.addText(x, 1, 2, 3, 1, 2, 1, 1, 40, 41, 42);
        x.choose(6, 2, 15, 8);
        x.choose(6, 3, 15, 8);
        long start = made();
        allCalls(x);
        return made() - start;
    }

    private static void allCalls(PrefixCodes x) {
        x.code(3);
        x.length(0, 1, 2);
        x.about(0, 0);
        x.word(0, 1, true);
        x.count(3, 4);
        x.countText();
        x.least(64, 15);
        x.cost(0);
        x.putNumber(77, 30);
        x.bits();
        x.bit(3);
        x.takeNumber(7);
        x.put(1, 1, false);
        x.take(1, true);
        x.clear();
        for (int manner = 0; manner < 3; manner++) {
            x.pack(1, manner);
            x.unpack(64, manner);
        }
        x.clear();
        x.table(1, 3);
        x.entry(1, 1);
        x.choose(3, 3, 15, 8);
        x.group(1);
        x.write();
        x.read(6, 6, 3, 10);
        x.symbol(2);
        x.add(1, 2, 3, 4, 5);
        x.forget();
    }

    private static long made() {
        com.sun.management.ThreadMXBean bean =
                (com.sun.management.ThreadMXBean) java.lang.management.ManagementFactory.getThreadMXBean();
        return bean.getThreadAllocatedBytes(Thread.currentThread().getId());
    }
}
