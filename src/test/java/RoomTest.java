import java.lang.management.ManagementFactory;
import java.lang.reflect.Array;
import java.lang.reflect.Field;
import java.lang.reflect.Modifier;
import java.util.ArrayDeque;
import java.util.Collections;
import java.util.Deque;
import java.util.IdentityHashMap;
import java.util.Set;

/**
 * All calls of one run live in one room of 600,000 objects and 7.3 million fields and elements: a new
 * object must stay so small that one for each of 512 calls has room there, and a call must make nothing.
 */
final class RoomTest {
    private static final int CALLS = 512;

    public static void main(String[] args) throws IllegalAccessException {
        Check check = new Check();
        int[] size = measure(new SealedWire());
        System.out.println("a new object: " + size[0] + " objects, " + size[1] + " fields and elements");
        check.isTrue("few objects", size[0] <= 600_000 / CALLS);
        check.isTrue("few fields and elements", size[1] <= 7_300_000 / CALLS);
        for (int i = 0; i < 3; i++) {
            made();
            useAll(Hands.ready());
        }
        SealedWire x = Hands.ready();
        long first = made();
        long before = made();
        useAll(x);
        long after = made();
        // The measuring itself makes something, which is taken away.
        check.due("bytes that calls made", after - before, before - first);
        check.due("so many exchanges", x.about(0, 4), 11);
        check.close();
    }

    private static int[] measure(Object root) throws IllegalAccessException {
        Set<Object> seen = Collections.newSetFromMap(new IdentityHashMap<>());
        Deque<Object> open = new ArrayDeque<>();
        open.add(root);
        int parts = 0;
        while (!open.isEmpty()) {
            Object next = open.remove();
            if (!seen.add(next)) {
                continue;
            }
            if (next.getClass().isArray()) {
                parts += Array.getLength(next);
                for (int i = 0; next instanceof Object[] && i < Array.getLength(next); i++) {
                    open.add(Array.get(next, i));
                }
                continue;
            }
            for (Field field : next.getClass().getDeclaredFields()) {
                if (!Modifier.isStatic(field.getModifiers())) {
                    parts++;
                    field.setAccessible(true);
                    if (!field.getType().isPrimitive()) {
                        open.add(field.get(next));
                    }
                }
            }
        }
        return new int[] {seen.size(), parts};
    }

    private static long made() {
        return ((com.sun.management.ThreadMXBean) ManagementFactory.getThreadMXBean())
                .getThreadAllocatedBytes(Thread.currentThread().getId());
    }

    private static void typed(SealedWire x, int count) {
        for (int i = 0; i < count; i++) {
            x.type(94, 1);
        }
    }

    private static void useAll(SealedWire x) {
        for (int i = 0; i < 11; i++) {
            x.begin(i % 2);
            x.run(50);
            typed(x, 64);
            x.multiply();
            typed(x, 600);
            x.hash();
            typed(x, 32);
            x.stream(i, i);
            typed(x, 500);
            x.tag();
            x.out(3);
            typed(x, 32);
            x.set(0);
            typed(x, 150);
            x.send(i % 2);
            x.damage(1 - i % 2, 0, x.packet(1 - i % 2, 0, -1) - 1, 0);
            x.come(1 - i % 2);
            x.got(1 - i % 2, 0);
            x.session(0, 0);
        }
    }
}
