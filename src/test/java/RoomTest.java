import java.lang.management.ManagementFactory;
import java.lang.reflect.Array;
import java.lang.reflect.Field;
import java.lang.reflect.Modifier;
import java.util.ArrayDeque;
import java.util.Collections;
import java.util.Deque;
import java.util.IdentityHashMap;
import java.util.Set;

/**
 * An object and all of its calls stay within a tenth of the room that a run has: what is kept is
 * counted, and what the calls make is weighed, at 16 bytes an object and 8 an element.
 */
public final class RoomTest {
    private static final int MOST_OBJECTS = 60_000;
    private static final int MOST_ELEMENTS = 730_000;
    private static final long MOST_BYTES = 16L * MOST_OBJECTS + 8L * MOST_ELEMENTS;

    public static void main(String[] args) throws Exception {
        BinderParcels x = new BinderParcels();
        boolean isWithin = isWithin("a new object", room(x));
        everyCall(x);
        isWithin &= isWithin("behind all calls", room(x));
        BinderParcels second = new BinderParcels();
        long before = bytes();
        everyCall(second);
        long used = bytes() - before;
        System.out.println("all calls: " + used + " bytes");
        if (!isWithin || used > MOST_BYTES) {
            System.exit(1);
        }
    }

    private static boolean isWithin(String when, int[] room) {
        System.out.println(when + ": " + room[0] + " objects, " + room[1] + " fields and elements");
        return room[0] <= MOST_OBJECTS && room[1] <= MOST_ELEMENTS;
    }

    private static long bytes() {
        com.sun.management.ThreadMXBean threads =
            (com.sun.management.ThreadMXBean) ManagementFactory.getThreadMXBean();
        return threads.getThreadAllocatedBytes(Thread.currentThread().getId());
    }

    /** Some 500 calls. Hardly anything is made here either: only the calls' own use is to be seen. */
    private static void everyCall(BinderParcels x) {
        x.own();
        for (int parcel = 0; parcel < 16; parcel++) {
            x.put(0x2b312e302c2b322eL + ((long) (parcel % 10) << 32));
            x.put('5');
            x.issue();
            x.own();
        }
        for (int i = 0; i < 7; i++) {
            x.done(0, i, i % 2 == 0);
            x.lose(1, i);
            x.again(0, i);
            x.hand(0, 20 + i, i % 3, i % 5 != 0);
            x.save(i % 2);
            x.doAll(2);
            x.undo();
            x.restore(i % 2);
            for (int what = 0; what < 12; what++) {
                x.parcel(i, what);
                x.leaf(0, 10 + i, what);
                x.of(0, what);
                x.count(what);
            }
            x.text(10 + i);
            x.ifDone(0, i);
            x.ifAllDone(0);
            x.mending(0);
            x.rightFrom(0);
            x.fault();
            x.wipe();
        }
    }

    private static int[] room(Object root) throws Exception {
        Set<Object> seen = Collections.newSetFromMap(new IdentityHashMap<>());
        Deque<Object> open = new ArrayDeque<>();
        int elements = 0;
        seen.add(root);
        open.add(root);
        while (!open.isEmpty()) {
            Object object = open.remove();
            if (object.getClass().isArray()) {
                elements += Array.getLength(object);
                if (object instanceof Object[] parts) {
                    for (Object part : parts) {
                        meet(part, seen, open);
                    }
                }
            } else {
                for (Field field : object.getClass().getDeclaredFields()) {
                    if (!Modifier.isStatic(field.getModifiers())) {
                        elements++;
                        field.setAccessible(true);
                        if (!field.getType().isPrimitive()) {
                            meet(field.get(object), seen, open);
                        }
                    }
                }
            }
        }
        return new int[] {seen.size(), elements};
    }

    private static void meet(Object part, Set<Object> seen, Deque<Object> open) {
        if (part != null && seen.add(part)) {
            open.add(part);
        }
    }
}
