import java.lang.reflect.InvocationTargetException;
import java.lang.reflect.Method;
import java.util.HashMap;
import java.util.Map;
import java.util.Random;

/** Runs of calls, drawn with fixed seeds: the class must answer as the model does, call by call. */
final class RandomRunsTest {
    private static final int RUNS = 500;
    private static final int STEPS = 60;

    private static final Map<String, Method> REAL = methods(SealedWire.class);
    private static final Map<String, Method> MODEL = methods(Model.class);

    private final Check check;
    private final Random random;
    private final int number;
    private final SealedWire real = new SealedWire();
    private final Model model = new Model();
    private final int[] reached;
    /** Of twenty steps that are no damage so many are begin or come. */
    private int comes;

    private RandomRunsTest(Check check, int number, int[] reached) {
        this.check = check;
        this.number = number;
        this.random = new Random(number);
        this.reached = reached;
    }

    public static void main(String[] args) {
        Check check = new Check();
        int[] reached = new int[5];
        for (int number = 0; number < RUNS; number++) {
            new RandomRunsTest(check, number, reached).play();
        }
        // Runs that never got far would prove little.
        check.isTrue("many exchanges were over: " + reached[0], reached[0] > 300);
        check.isTrue("many packets came with keys: " + reached[1], reached[1] > 1000);
        check.isTrue("some packets were broken: " + reached[2], reached[2] > 20);
        check.isTrue("some were not in place: " + reached[3], reached[3] > 20);
        check.isTrue("some ends met a full wire: " + reached[4], reached[4] > 20);
        System.out.println("reached: " + java.util.Arrays.toString(reached));
        check.close();
    }

    private static Map<String, Method> methods(Class<?> type) {
        Map<String, Method> found = new HashMap<>();
        for (Method method : type.getDeclaredMethods()) {
            if (java.lang.reflect.Modifier.isPublic(method.getModifiers())) {
                found.put(method.getName(), method);
            }
        }
        return found;
    }

    private static String answer(Object target, Method method, Object[] values) {
        try {
            return String.valueOf(method.invoke(target, values));
        } catch (InvocationTargetException e) {
            return e.getCause().getClass().getSimpleName();
        } catch (IllegalAccessException e) {
            throw new AssertionError(e);
        }
    }

    private String call(String name, Object... values) {
        String got = answer(real, REAL.get(name), values);
        check.due("run " + number + ": " + name + java.util.Arrays.toString(values),
                got, answer(model, MODEL.get(name), values));
        return got;
    }

    private void type(byte[] row) {
        for (int i = 0; i < row.length; i += 8) {
            long word = 0;
            int count = Math.min(8, row.length - i);
            for (int j = 0; j < count; j++) {
                word |= (row[i + j] & 255L) << (8 * j);
            }
            call("type", word, count);
        }
    }

    private byte[] row(int size) {
        byte[] row = new byte[size];
        random.nextBytes(row);
        return row;
    }

    private void setUp() {
        byte[] host = row(32);
        type(host);
        call("set", 2);
        if (random.nextInt(8) != 0) {
            type(Model.publicRow(host));
            call("set", 3);
        }
        for (int what : new int[] {0, 1, 4, 5}) {
            if (random.nextInt(4) != 0) {
                type(row(what < 4 ? 32 : 8));
                call("set", what);
            }
        }
    }

    private void play() {
        if (random.nextInt(10) != 0) {
            setUp();
        }
        int damageIn = random.nextInt(3) == 0 ? 20 : 100000;
        int disguiseIn = random.nextInt(3) == 0 ? 6 : 100000;
        int runIn = random.nextInt(3) == 0 ? 30 : 8;
        comes = random.nextInt(4) == 0 ? 2 : 9;
        for (int step = 0; step < STEPS; step++) {
            if (random.nextInt(damageIn) == 0) {
                damage();
            } else if (random.nextInt(disguiseIn) == 0) {
                disguise();
            } else if (random.nextInt(runIn) == 0) {
                call("run", random.nextInt(51));
            } else {
                step();
            }
            look();
        }
        count();
    }

    private void step() {
        int end = random.nextInt(2);
        int drawn = random.nextInt(20);
        if (drawn < 2) {
            call("begin", end);
        } else if (drawn < comes) {
            int before = model.about(end, 0);
            String answer = call("come", end);
            if (before == 1) {
                reached[2] += answer.equals("-2") ? 1 : 0;
                reached[3] += answer.equals("-3") ? 1 : 0;
            }
        } else if (drawn < 19) {
            send(end);
        } else {
            type(row(random.nextInt(3) == 0 ? 32 : 8));
            call("set", random.nextInt(7) - (random.nextInt(10) == 0 ? 1 : 0));
        }
    }

    private void send(int end) {
        int[] firsts = {94, 94, 94, 94, 94, 2, 2, 3, 77, 0, 255, 22, 32};
        int[] sizes = {1, 9, 33, 97, random.nextInt(20), random.nextInt(20), 150 + random.nextInt(53)};
        byte[] payload = row(sizes[random.nextInt(sizes.length)]);
        if (payload.length > 0 && random.nextInt(15) != 0) {
            payload[0] = (byte) firsts[random.nextInt(firsts.length)];
        }
        if (payload.length == 20) {
            payload = new byte[] {3, payload[1], payload[2], payload[3], payload[4]};
        }
        type(payload);
        boolean full = model.about(1 - end, 5) == 12;
        String answer = call("send", end);
        reached[4] += full && answer.equals("null") ? 1 : 0;
    }

    private void damage() {
        int end = random.nextInt(2);
        int packets = model.about(end, 5);
        int k = packets == 0 ? 0 : random.nextInt(packets + (random.nextInt(9) == 0 ? 1 : 0));
        int size = k < packets ? model.packet(end, k, -1) : 30;
        int i = random.nextInt(3) == 0 ? 3 + random.nextInt(3) : random.nextInt(size + 1);
        int x = random.nextInt(2) == 0 ? 1 << random.nextInt(9) : random.nextInt(256);
        call("damage", end, k, i, x);
    }

    /** Makes another message of a packet; that can go unseen while there are no keys. */
    private void disguise() {
        int[] messages = {1, 2, 3, 20, 21, 30, 31, 94, 100};
        int end = random.nextInt(2);
        int packets = model.about(end, 5);
        if (packets > 0) {
            int k = random.nextInt(packets);
            call("damage", end, k, 5, model.packet(end, k, 5) ^ messages[random.nextInt(messages.length)]);
        }
    }

    private void look() {
        for (int end = 0; end < 2; end++) {
            for (int what = 0; what < 9; what++) {
                call("about", end, what);
            }
            call("session", end, random.nextInt(32));
            int packets = model.about(end, 5);
            if (packets > 0) {
                int k = random.nextInt(packets);
                int size = model.packet(end, k, -1);
                call("packet", end, k, -1);
                for (int i = 0; i < size; i++) {
                    call("packet", end, k, i);
                }
            }
            int got = model.about(end, 3);
            call("got", end, got);
            call("got", end, got - 1);
            call("got", end, got == 0 ? 0 : random.nextInt(got));
        }
    }

    private void count() {
        for (int end = 0; end < 2; end++) {
            reached[0] += model.about(end, 4);
            reached[1] += model.about(end, 4) > 0 ? model.about(end, 2) : 0;
        }
    }
}
