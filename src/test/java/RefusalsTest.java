import java.util.LinkedHashMap;
import java.util.Map;
import java.util.NoSuchElementException;
import java.util.function.Consumer;
import java.util.function.Supplier;

/** Calls that throw, what they leave as it was, and which exception it is; and how long an object is used. */
final class RefusalsTest {
    private static final Check CHECK = new Check();
    private static final byte[] FIVE = Hands.counted(5, 50);

    public static void main(String[] args) {
        throwingChangesNothing();
        onlyTakersTouchTheTape();
        takersThatThrowEmptyTheTape();
        theFirstNamed();
        sendNamesThree();
        used512Times();
        CHECK.close();
    }

    private static Map<String, Supplier<SealedWire>> states() {
        Map<String, Supplier<SealedWire>> states = new LinkedHashMap<>();
        states.put("new", SealedWire::new);
        states.put("ready", Hands::ready);
        for (int i = 0; i < 6; i++) {
            int came = i;
            states.put("after " + i + " of an exchange", () -> {
                SealedWire x = Hands.ready();
                x.begin(came % 2);
                x.run(came);
                return x;
            });
        }
        states.put("with keys", RefusalsTest::busy);
        states.put("in the second exchange", () -> {
            SealedWire x = Hands.sealed();
            x.begin(1);
            x.run(3);
            return x;
        });
        states.put("the client ended", () -> {
            SealedWire x = busy();
            Hands.send(x, 0, Hands.bytes(1));
            return x;
        });
        states.put("both ended", () -> {
            SealedWire x = Hands.ready();
            Hands.send(x, 0, Hands.bytes(1));
            x.run(50);
            return x;
        });
        states.put("full", () -> {
            SealedWire x = Hands.ready();
            for (int i = 0; i < 12; i++) {
                Hands.send(x, 0, Hands.bytes(94, i));
                Hands.send(x, 1, Hands.bytes(2, i));
            }
            return x;
        });
        return states;
    }

    /** Something of all: got, out, packets on the wire. */
    private static SealedWire busy() {
        SealedWire x = Hands.sealed();
        Hands.send(x, 0, Hands.bytes(94, 1, 2));
        x.come(1);
        Hands.send(x, 1, Hands.bytes(3, 0, 0, 0, 5));
        x.come(0);
        x.hash();
        Hands.send(x, 0, Hands.bytes(94, 7));
        Hands.send(x, 1, Hands.bytes(77));
        return x;
    }

    private static void typeAnd(Map<String, Consumer<SealedWire>> calls, String name, byte[] row, Consumer<SealedWire> call) {
        calls.put(name, x -> {
            Hands.type(x, row);
            call.accept(x);
        });
    }

    private static Map<String, Consumer<SealedWire>> takers() {
        Map<String, Consumer<SealedWire>> calls = new LinkedHashMap<>();
        int[][] sets = {{-1, 32}, {6, 8}, {6, 0}, {0, 31}, {0, 33}, {1, 31}, {1, 33}, {2, 31}, {2, 33}, {3, 31}, {3, 33},
            {4, 7}, {4, 9}, {5, 7}, {5, 9}, {0, 0}, {4, 0}, {4, 32}, {3, 8}};
        for (int[] set : sets) {
            typeAnd(calls, "set(" + set[0] + ") of " + set[1], Hands.filled(set[1], 7), x -> x.set(set[0]));
        }
        for (int size : new int[] {0, 63, 65}) {
            typeAnd(calls, "multiply of " + size, Hands.filled(size, 7), SealedWire::multiply);
        }
        for (int size : new int[] {0, 31, 33}) {
            typeAnd(calls, "stream of " + size, Hands.filled(size, 7), x -> x.stream(0, 0));
        }
        typeAnd(calls, "nonce -1", Hands.filled(32, 7), x -> x.stream(-1, 0));
        typeAnd(calls, "counter -1", Hands.filled(32, 7), x -> x.stream(0, -1));
        for (int size : new int[] {0, 31}) {
            typeAnd(calls, "tag of " + size, Hands.filled(size, 7), SealedWire::tag);
        }
        for (int end : new int[] {-1, 2}) {
            typeAnd(calls, "send by " + end, FIVE, x -> x.send(end));
        }
        for (int end = 0; end < 2; end++) {
            int from = end;
            for (int size : new int[] {0, 201, 600}) {
                typeAnd(calls, "send by " + end + " of " + size, Hands.filled(size, 94), x -> x.send(from));
            }
            for (int message : new int[] {20, 21, 30, 31}) {
                typeAnd(calls, "send by " + end + " of message " + message, Hands.bytes(message), x -> x.send(from));
            }
        }
        return calls;
    }

    /** These throw in some states only. */
    private static Map<String, Consumer<SealedWire>> sometimes() {
        Map<String, Consumer<SealedWire>> calls = new LinkedHashMap<>();
        for (int end = 0; end < 2; end++) {
            int from = end;
            for (int message : new int[] {1, 2, 3, 77, 94}) {
                typeAnd(calls, "send by " + end + " of message " + message, Hands.bytes(message), x -> x.send(from));
            }
            calls.put("begin(" + end + ")", x -> x.begin(from));
            calls.put("damage of " + end, x -> x.damage(from, 0, 0, 1));
            calls.put("damage of the twelfth of " + end, x -> x.damage(from, 11, 0, 1));
        }
        return calls;
    }

    private static Map<String, Consumer<SealedWire>> others() {
        Map<String, Consumer<SealedWire>> calls = new LinkedHashMap<>();
        calls.put("out(-1)", x -> x.out(-1));
        calls.put("out(64)", x -> x.out(64));
        calls.put("run(-1)", x -> x.run(-1));
        calls.put("run(51)", x -> x.run(51));
        for (int end : new int[] {-1, 2}) {
            calls.put("begin(" + end + ")", x -> x.begin(end));
            calls.put("come(" + end + ")", x -> x.come(end));
            calls.put("packet(" + end + ")", x -> x.packet(end, 0, 0));
            calls.put("damage(" + end + ")", x -> x.damage(end, 0, 0, 1));
            calls.put("got(" + end + ")", x -> x.got(end, 0));
            calls.put("about(" + end + ")", x -> x.about(end, 0));
            calls.put("session(" + end + ")", x -> x.session(end, 0));
        }
        for (int end = 0; end < 2; end++) {
            int at = end;
            calls.put("packet 12 to " + end, x -> x.packet(at, 12, 0));
            calls.put("packet -1 to " + end, x -> x.packet(at, -1, 0));
            calls.put("byte 228 to " + end, x -> x.packet(at, 0, 228));
            calls.put("byte -2 to " + end, x -> x.packet(at, 0, -2));
            calls.put("damage of 12 to " + end, x -> x.damage(at, 12, 0, 1));
            calls.put("damage of byte -1 to " + end, x -> x.damage(at, 0, -1, 1));
            calls.put("damage of byte 228 to " + end, x -> x.damage(at, 0, 228, 1));
            calls.put("damage by 256 to " + end, x -> x.damage(at, 0, 0, 256));
            calls.put("damage by -1 to " + end, x -> x.damage(at, 0, 0, -1));
            calls.put("got -1 of " + end, x -> x.got(at, -1));
            calls.put("got 2000 of " + end, x -> x.got(at, 2000));
            calls.put("about 9 of " + end, x -> x.about(at, 9));
            calls.put("about -1 of " + end, x -> x.about(at, -1));
            calls.put("session 32 of " + end, x -> x.session(at, 32));
            calls.put("session -1 of " + end, x -> x.session(at, -1));
        }
        return calls;
    }

    private static boolean throwsAny(SealedWire x, Consumer<SealedWire> call) {
        try {
            call.accept(x);
            return false;
        } catch (RuntimeException e) {
            return true;
        }
    }

    /**
     * What can be seen of an object from now on: secrets and cookies show in the packets of an exchange.
     * It looks at more than 512 answers, as this class counts no calls.
     */
    private static String story(SealedWire x) {
        StringBuilder text = new StringBuilder(Hands.seen(x));
        text.append(x.come(1)).append(x.come(0)).append(Hands.seen(x));
        x.run(50);
        for (int end = 0; end < 2; end++) {
            int from = end;
            text.append(throwsAny(x, y -> y.begin(from)));
            text.append(Hands.seen(x));
        }
        for (int i = 0; i < 6; i++) {
            text.append(x.run(1)).append(Hands.seen(x));
        }
        for (int end = 0; end < 2; end++) {
            int from = end;
            text.append(throwsAny(x, y -> Hands.send(y, from, Hands.bytes(94, 5))));
            text.append(Hands.seen(x));
        }
        return text.append(x.run(50)).append(Hands.seen(x)).toString();
    }

    private static void throwingChangesNothing() {
        CHECK.of("A call that throws changes nothing (but for the tape)");
        states().forEach((stateName, state) -> {
            String due = story(state.get());
            takers().forEach((name, call) -> same(stateName, state, name, call, due, true));
            others().forEach((name, call) -> same(stateName, state, name, call, due, true));
            sometimes().forEach((name, call) -> same(stateName, state, name, call, due, false));
        });
    }

    private static void same(String stateName, Supplier<SealedWire> state, String name, Consumer<SealedWire> call,
            String due, boolean always) {
        SealedWire x = state.get();
        boolean threw = throwsAny(x, call);
        CHECK.isTrue(stateName + ": " + name + " throws", threw || !always);
        if (threw) {
            CHECK.isTrue(stateName + ": " + name + " changes nothing", story(x).equals(due));
        }
    }

    private static void onlyTakersTouchTheTape() {
        CHECK.of("a call that takes it empties it (the others leave it)");
        Map<String, Consumer<SealedWire>> calls = others();
        calls.put("out(0)", x -> x.out(0));
        calls.put("begin(0)", x -> x.begin(0));
        calls.put("come(0)", x -> x.come(0));
        calls.put("come(1)", x -> x.come(1));
        calls.put("run(50)", x -> x.run(50));
        calls.put("packet", x -> x.packet(0, 0, 0));
        calls.put("damage", x -> x.damage(0, 0, 0, 1));
        calls.put("got", x -> x.got(1, 0));
        calls.put("about", x -> x.about(0, 0));
        calls.put("session", x -> x.session(0, 0));
        calls.put("type of 0", x -> x.type(1, 0));
        calls.put("type of 9", x -> x.type(1, 9));
        calls.forEach((name, call) -> {
            SealedWire x = busy();
            Hands.type(x, FIVE);
            throwsAny(x, call);
            x.hash();
            CHECK.due(name + " leaves the tape", Hands.out(x, 32), Hands.hex(Model.digest(FIVE)));
        });
    }

    private static void takersThatThrowEmptyTheTape() {
        CHECK.of("A call that throws changes nothing (but for the tape)");
        takers().forEach((name, call) -> {
            SealedWire x = busy();
            CHECK.isTrue(name + " throws", throwsAny(x, call));
            Hands.type(x, FIVE);
            x.hash();
            CHECK.due(name + " emptied the tape", Hands.out(x, 32), Hands.hex(Model.digest(FIVE)));
        });
    }

    private static void theFirstNamed() {
        CHECK.of("where several exceptions that a call names fit, it is the one that it names first");
        for (int size : new int[] {0, 7, 8, 31, 32, 600}) {
            SealedWire x = new SealedWire();
            Hands.type(x, Hands.filled(size, 1));
            CHECK.refuses("set(6) of " + size, IndexOutOfBoundsException.class, () -> x.set(6));
        }
        SealedWire x = new SealedWire();
        Hands.send(x, 0, Hands.bytes(2));
        CHECK.refuses("no end, no packet, no byte", NoSuchElementException.class, () -> x.packet(2, 5, -2));
        CHECK.refuses("no packet, no byte", NoSuchElementException.class, () -> x.packet(1, 1, -2));
        CHECK.refuses("no byte", IndexOutOfBoundsException.class, () -> x.packet(1, 0, -2));
        CHECK.refuses("no end, nothing right", NoSuchElementException.class, () -> x.damage(-1, 5, -2, 256));
        CHECK.refuses("no packet, no byte, XOR 256", NoSuchElementException.class, () -> x.damage(1, 1, -2, 256));
        CHECK.refuses("no byte, XOR 256", IndexOutOfBoundsException.class, () -> x.damage(1, 0, 16, 256));
        CHECK.refuses("byte -1, XOR -1", IndexOutOfBoundsException.class, () -> x.damage(1, 0, -1, -1));
        CHECK.refuses("XOR 256", IllegalArgumentException.class, () -> x.damage(1, 0, 15, 256));
        CHECK.refuses("no end, no byte", NoSuchElementException.class, () -> x.got(2, -1));
        CHECK.refuses("no end, no such what", NoSuchElementException.class, () -> x.about(2, 9));
        CHECK.refuses("no end, no byte, no session", NoSuchElementException.class, () -> x.session(-1, 32));
        CHECK.refuses("no byte, no session", IndexOutOfBoundsException.class, () -> x.session(0, 32));
        CHECK.refuses("no session", IllegalStateException.class, () -> x.session(0, 31));
        CHECK.refuses("no end begins", NoSuchElementException.class, () -> x.begin(2));
    }

    private static void sendNamesThree() {
        CHECK.of("NoSuchElementException; IllegalArgumentException ...; IllegalStateException");
        SealedWire ended = new SealedWire();
        Hands.send(ended, 0, Hands.bytes(1));
        for (int size : new int[] {0, 201}) {
            Hands.type(ended, Hands.filled(size, 20));
            CHECK.refuses("no end, " + size, NoSuchElementException.class, () -> ended.send(2));
            Hands.type(ended, Hands.filled(size, 20));
            CHECK.refuses(size + " of an end that ended", IllegalArgumentException.class, () -> ended.send(0));
            Hands.type(ended, Hands.filled(size, 31));
            CHECK.refuses(size + " with the first byte 31", IllegalArgumentException.class, () -> ended.send(1));
        }
        Hands.type(ended, Hands.filled(200, 20));
        CHECK.refuses("no end, first byte 20", NoSuchElementException.class, () -> ended.send(-1));
        Hands.type(ended, Hands.filled(200, 94));
        CHECK.refuses("200 of an end that ended", IllegalStateException.class, () -> ended.send(0));
        SealedWire begun = new SealedWire();
        begun.begin(0);
        Hands.type(begun, Hands.filled(201, 94));
        CHECK.refuses("201 in an exchange", IllegalArgumentException.class, () -> begun.send(0));
        Hands.type(begun, Hands.filled(200, 94));
        CHECK.refuses("200 in an exchange", IllegalStateException.class, () -> begun.send(0));
    }

    /** Each of these ends with the call 512, and what it answers is due still. */
    private static void used512Times() {
        CHECK.of("An object is used for at most 512 calls after it has been made");
        exchangesToTheLastCall();
        typesToTheLastCall();
        dataToTheLastCall();
        damagesToTheLastCall();
        refusalsToTheLastCall();
    }

    private static void exchangesToTheLastCall() {
        SealedWire x = new SealedWire();
        Hands.set(x, 3, Model.publicRow(new byte[32]));
        for (int calls = 5; calls < 511; calls += 2) {
            x.begin(calls / 2 % 2);
            CHECK.due("six packets", x.run(50), 6);
        }
        CHECK.due("253 exchanges are over", x.about(0, 4), 253);
    }

    private static void typesToTheLastCall() {
        byte[] due = new byte[600];
        SealedWire x = new SealedWire();
        for (int i = 0; i < 510; i++) {
            CHECK.isTrue("type " + i, x.type(i, 8) == i < 75);
            if (i < 75) {
                due[8 * i] = (byte) i;
            }
        }
        x.hash();
        CHECK.due("the last byte of the hash of 600", x.out(31), Model.digest(due)[31] & 255);
    }

    private static void dataToTheLastCall() {
        SealedWire x = new SealedWire();
        for (int i = 0; i < 170; i++) {
            x.type(0x5e | (long) i << 8, 8);
            x.send(i % 2);
            CHECK.due("DATA", x.come(1 - i % 2), 94);
        }
        CHECK.due("seven bytes of each came to the client", x.about(0, 3), 7 * 85);
        CHECK.due("the last of them", x.got(0, 7 * 84), 169);
    }

    /** The same byte is damaged an odd or an even number of times: as if it was once, or never. */
    private static void damagesToTheLastCall() {
        for (int damages = 509; damages <= 510; damages++) {
            SealedWire x = new SealedWire();
            x.begin(0);
            for (int i = 0; i < damages; i++) {
                x.damage(1, 0, 3, 255);
            }
            CHECK.due(damages + " damages", x.come(1), damages % 2 == 0 ? 20 : -2);
        }
    }

    private static void refusalsToTheLastCall() {
        SealedWire x = new SealedWire();
        for (int i = 0; i < 511; i++) {
            CHECK.refuses("set of nothing", IllegalArgumentException.class, () -> x.set(0));
        }
        CHECK.due("it lives", x.about(0, 0), 1);
    }
}
