import java.util.NoSuchElementException;

/** Promises 9 to 17 without an exchange that is over: packets, messages, and ends that end. */
final class WireTest {
    private static final Check CHECK = new Check();
    private static final int[] NO_ENDS = {-1, 2, Integer.MIN_VALUE, Integer.MAX_VALUE};

    public static void main(String[] args) {
        noSuchEnd();
        begin();
        sendRefuses();
        zerosBehindPayloads();
        data();
        dataHasRoomFor2000();
        unknown();
        anyBytes();
        sendEnds();
        broken();
        otherZeros();
        notInPlace();
        wrongSizes();
        gone();
        fullWire();
        fullWireMeetsAnswers();
        run();
        packet();
        damage();
        got();
        about();
        session();
        CHECK.close();
    }

    private static void noSuchEnd() {
        for (int end : NO_ENDS) {
            SealedWire x = new SealedWire();
            Class<NoSuchElementException> kind = NoSuchElementException.class;
            CHECK.refuses("begin", kind, () -> x.begin(end));
            CHECK.refuses("send of nothing", kind, () -> x.send(end));
            CHECK.refuses("come", kind, () -> x.come(end));
            CHECK.refuses("packet", kind, () -> x.packet(end, 0, 0));
            CHECK.refuses("damage", kind, () -> x.damage(end, 0, -5, 300));
            CHECK.refuses("got", kind, () -> x.got(end, -5));
            CHECK.refuses("about", kind, () -> x.about(end, 99));
            CHECK.refuses("session", kind, () -> x.session(end, 99));
        }
    }

    private static void begin() {
        for (int end = 0; end < 2; end++) {
            SealedWire x = Hands.ready();
            int at = end;
            x.begin(end);
            String cookie = Hands.hex(Hands.counted(8, end == 0 ? 60 : 80));
            CHECK.due("INIT", Hands.packet(x, 1 - end, 0), "000000140a14" + cookie + "00".repeat(10));
            CHECK.due("about who begins", Hands.about(x, end), "1 1 0 0 0 0 1 0 -1");
            CHECK.due("about the other", Hands.about(x, 1 - end), "1 0 0 0 0 1 0 0 -1");
            CHECK.refuses("begin twice", IllegalStateException.class, () -> x.begin(at));
            x.begin(1 - end);
            CHECK.due("both may begin", x.about(end, 5), 1);
            SealedWire ended = new SealedWire();
            Hands.send(ended, end, Hands.bytes(1));
            CHECK.refuses("begin of an end that ended", IllegalStateException.class, () -> ended.begin(at));
        }
    }

    private static void sendRefuses() {
        SealedWire x = new SealedWire();
        CHECK.refuses("send of nothing", IllegalArgumentException.class, () -> x.send(0));
        Hands.type(x, Hands.filled(201, 94));
        CHECK.refuses("send of 201", IllegalArgumentException.class, () -> x.send(0));
        for (int message : new int[] {20, 21, 30, 31}) {
            Hands.type(x, Hands.filled(9, message));
            CHECK.refuses("send of " + message, IllegalStateException.class, () -> x.send(1));
            Hands.type(x, Hands.filled(201, message));
            CHECK.refuses("send of too many " + message, IllegalArgumentException.class, () -> x.send(1));
        }
        CHECK.due("a send that throws sends nothing", x.about(0, 5) + x.about(1, 5), 0);
        x.begin(0);
        for (int message = 0; message < 256; message++) {
            SealedWire y = new SealedWire();
            y.begin(0);
            Hands.type(y, Hands.bytes(message));
            if (message >= 1 && message <= 3) {
                y.send(0);
                CHECK.due("sent in an exchange: " + message, y.about(1, 5), 2);
            } else {
                CHECK.refuses("send in an exchange of " + message, IllegalStateException.class, () -> y.send(0));
            }
        }
        Hands.send(x, 1, Hands.bytes(94, 5));
        CHECK.due("the other one may send before INIT comes", x.come(0), 94);
        x.come(1);
        Hands.type(x, Hands.bytes(94, 5));
        CHECK.refuses("but not behind", IllegalStateException.class, () -> x.send(1));
        Hands.send(x, 0, Hands.bytes(1));
        CHECK.refuses("nothing from an end that ended", IllegalArgumentException.class, () -> x.send(0));
        Hands.type(x, Hands.bytes(2));
        CHECK.refuses("IGNORE from an end that ended", IllegalStateException.class, () -> x.send(0));
    }

    private static void zerosBehindPayloads() {
        for (int size = 1; size <= 200; size++) {
            SealedWire x = new SealedWire();
            byte[] payload = Hands.counted(size, 94);
            Hands.send(x, 0, payload);
            CHECK.due("a packet of " + size, Hands.packet(x, 1, 0), Hands.hex(Model.sealedPacket(payload, null, 0)));
            CHECK.due("come of " + size, x.come(1), 94);
            CHECK.due("got of " + size, x.about(1, 3), size - 1);
        }
        SealedWire x = new SealedWire();
        Hands.send(x, 1, Hands.bytes(2, 1, 2, 3, 4, 5, 6));
        CHECK.due("four zeros are enough", Hands.packet(x, 0, 0), "0000000c0402010203040506" + "00000000");
        Hands.send(x, 1, Hands.bytes(2, 1, 2, 3, 4, 5, 6, 7));
        CHECK.due("three are not", Hands.packet(x, 0, 1), "000000140b0201020304050607" + "00".repeat(11));
    }

    private static void data() {
        SealedWire x = new SealedWire();
        Hands.send(x, 0, Hands.bytes(94, 1, 2));
        Hands.send(x, 0, Hands.bytes(94));
        Hands.send(x, 0, Hands.bytes(94, 255));
        CHECK.due("nothing came yet", x.about(1, 3), 0);
        CHECK.due("three came", x.run(50), 3);
        CHECK.due("about the server", Hands.about(x, 1), "1 0 3 3 0 0 0 0 -1");
        CHECK.due("about the client", Hands.about(x, 0), "1 3 0 0 0 0 0 0 -1");
        CHECK.due("got", x.got(1, 0) * 1000000 + x.got(1, 1) * 1000 + x.got(1, 2), 1002255);
    }

    private static void dataHasRoomFor2000() {
        SealedWire x = new SealedWire();
        for (int i = 0; i < 10; i++) {
            Hands.send(x, 1, Hands.bytes(94), Hands.counted(199, i));
            CHECK.due("DATA", x.come(0), 94);
        }
        Hands.send(x, 1, Hands.bytes(94), Hands.counted(10, 40));
        CHECK.due("up to 2000", x.come(0), 94);
        CHECK.due("2000", x.about(0, 3), 2000);
        CHECK.due("the last", x.got(0, 1999), 49);
        Hands.send(x, 1, Hands.bytes(94));
        CHECK.due("no byte more has room", x.come(0), 94);
        Hands.send(x, 1, Hands.bytes(94, 1));
        CHECK.due("one has not", x.come(0), -3);
        CHECK.due("the end ended", Hands.about(x, 0), "0 1 13 2000 0 0 0 0 -1");
        CHECK.due("END goes to the other", Hands.packet(x, 1, 0), "0000000c0a01" + "00".repeat(10));
    }

    private static void unknown() {
        SealedWire x = new SealedWire();
        int answered = 0;
        for (int message = 0; message < 256; message++) {
            SealedWire y = new SealedWire();
            Hands.send(y, 0, Hands.bytes(2));
            y.come(1);
            Hands.type(y, Hands.bytes(message, 5, 6));
            try {
                y.send(0);
            } catch (IllegalStateException e) {
                continue;
            }
            CHECK.due("come", y.come(1), message);
            if (message > 3 && message != 94 || message == 0) {
                answered++;
                CHECK.due("UNKNOWN for " + message, Hands.packet(y, 0, 0), "0000000c060300000001" + "00".repeat(6));
                CHECK.due("UNKNOWN comes", y.come(0), 3);
                CHECK.due("the number", y.about(0, 8), 1);
            } else {
                CHECK.due("none for " + message, y.about(0, 5), 0);
            }
        }
        CHECK.due("messages that are not known", answered, 256 - 8);
        Hands.send(x, 0, Hands.bytes(3, 0x12, 0x34, 0x56, 0x78));
        CHECK.due("UNKNOWN", x.come(1), 3);
        CHECK.due("a number of any size", x.about(1, 8), 0x12345678);
        Hands.send(x, 0, Hands.bytes(3, 0xfe, 0xff, 0xff, 0xff));
        x.come(1);
        CHECK.due("as an int", x.about(1, 8), 0xfeffffff);
        for (int size : new int[] {1, 4, 6, 200}) {
            Hands.send(x, 0, Hands.bytes(3, 0, 0, 0, 7));
            x.come(1);
            CHECK.due("the last number", x.about(1, 8), 7);
            Hands.send(x, 0, Hands.filled(size, 3));
            CHECK.due("UNKNOWN of " + size, x.come(1), 3);
            CHECK.due("has no number", x.about(1, 8), -1);
        }
        CHECK.due("all live", x.about(0, 0) + x.about(1, 0), 2);
    }

    private static void anyBytes() {
        for (int size : new int[] {1, 2, 199, 200}) {
            SealedWire x = new SealedWire();
            Hands.send(x, 0, Hands.filled(size, 2));
            CHECK.due("IGNORE", x.come(1), 2);
            CHECK.due("does nothing", Hands.about(x, 1), "1 0 1 0 0 0 0 0 -1");
            Hands.send(x, 0, Hands.filled(size, 1));
            CHECK.due("END", x.come(1), 1);
            CHECK.due("ends the end without a packet", Hands.about(x, 1), "0 0 2 0 0 0 0 0 -1");
            CHECK.due("nothing comes back", x.about(0, 5), 0);
        }
    }

    private static void sendEnds() {
        SealedWire x = new SealedWire();
        Hands.send(x, 1, Hands.bytes(1, 9, 9));
        CHECK.due("who sends END ends", Hands.about(x, 1), "0 1 0 0 0 0 0 0 -1");
        CHECK.due("the other lives yet", x.about(0, 0), 1);
        CHECK.due("END comes", x.come(0), 1);
        CHECK.due("and ends it", Hands.about(x, 0), "0 0 1 0 0 0 0 0 -1");
    }

    private static void broken() {
        byte[] payload = Hands.bytes(94, 1, 2, 3);
        int size = Model.sealedPacket(payload, null, 0).length;
        for (int i = 0; i < size; i++) {
            for (int x = 1; x < 256; x++) {
                SealedWire wire = new SealedWire();
                Hands.send(wire, 0, payload);
                wire.damage(1, 0, i, x);
                boolean inPayload = i >= 5 && i < 9;
                // Four to six zeros are right for a payload that has the other ones at its end.
                boolean longer = i == 4 && (7 ^ x) >= 4 && (7 ^ x) <= 6;
                int answer = wire.come(1);
                if (inPayload || longer) {
                    CHECK.isTrue("a payload may be any", answer != -2);
                } else {
                    CHECK.due("byte " + i + " XOR " + x, answer, -2);
                    CHECK.due("ends", Hands.about(wire, 1), "0 1 1 0 0 0 0 0 -1");
                    CHECK.due("with END", wire.come(0), 1);
                }
            }
        }
    }

    /** Zeros at the end of a payload may count as zeros behind it, if they are 4 to 11 then. */
    private static void otherZeros() {
        byte[] payload = Hands.bytes(94, 1, 0, 0, 0, 0, 0);
        for (int zeros = 0; zeros < 256; zeros++) {
            SealedWire x = new SealedWire();
            Hands.send(x, 1, payload);
            x.damage(0, 0, 4, 4 ^ zeros);
            boolean whole = zeros >= 4 && zeros <= 9;
            CHECK.due(zeros + " zeros", x.come(0), whole ? 94 : -2);
            CHECK.due("bytes got", x.about(0, 3), whole ? 10 - zeros : 0);
        }
        SealedWire x = new SealedWire();
        Hands.send(x, 1, Hands.bytes(94));
        x.damage(0, 0, 5, 94);
        x.damage(0, 0, 4, 10 ^ 11);
        CHECK.due("a payload of nothing", x.come(0), -2);
        SealedWire y = new SealedWire();
        Hands.send(y, 1, Hands.filled(200, 94));
        y.damage(0, 0, 4, 11 ^ 10);
        CHECK.due("a payload of 201", y.come(0), -2);
    }

    private static void refusesDisguised(String what, SealedWire x, int to, byte[] payload) {
        Hands.disguised(x, 1 - to, payload);
        int sent = x.about(to, 1);
        int before = x.about(to, 5);
        for (int i = 1; i < before; i++) {
            CHECK.isTrue("what came before", x.come(to) >= 0);
            sent = x.about(to, 1);
        }
        CHECK.due(what, x.come(to), -3);
        CHECK.due(what + ": ends", x.about(to, 0), 0);
        CHECK.due(what + ": with END", x.about(to, 1), sent + 1);
    }

    private static void notInPlace() {
        for (int end = 0; end < 2; end++) {
            refusesDisguised("NEW first", new SealedWire(), end, Hands.filled(1, 21));
            refusesDisguised("REQUEST first", new SealedWire(), end, Hands.filled(33, 30));
            refusesDisguised("REPLY first", new SealedWire(), end, Hands.filled(97, 31));
            SealedWire begun = new SealedWire();
            begun.begin(end);
            refusesDisguised("REQUEST before INIT", begun, end, Hands.filled(33, 30));
            SealedWire twice = new SealedWire();
            twice.begin(1 - end);
            refusesDisguised("INIT twice", twice, end, Hands.filled(9, 20));
            SealedWire data = new SealedWire();
            data.begin(1 - end);
            refusesDisguised("DATA behind INIT", data, end, Hands.filled(3, 94));
            SealedWire late = new SealedWire();
            late.begin(1 - end);
            refusesDisguised("NEW before NEW was sent", late, end, Hands.filled(1, 21));
        }
        SealedWire x = new SealedWire();
        x.begin(0);
        x.run(2);
        refusesDisguised("REQUEST to the client", x, 0, Hands.filled(33, 30));
        SealedWire y = new SealedWire();
        y.begin(0);
        y.run(1);
        refusesDisguised("REPLY to the server", y, 1, Hands.filled(97, 31));
        SealedWire z = new SealedWire();
        z.begin(0);
        z.run(2);
        CHECK.due("REQUEST", z.come(1), 30);
        Hands.disguised(z, 0, Hands.filled(33, 30));
        CHECK.due("REQUEST twice", z.come(1), -3);
        SealedWire again = Hands.ready();
        again.begin(0);
        again.run(3);
        CHECK.due("REPLY", again.come(0), 31);
        again.damage(0, 0, 5, 21 ^ 31);
        CHECK.due("REPLY twice, or with one byte", again.come(0), -3);
    }

    private static void wrongSizes() {
        for (int size : new int[] {1, 8, 10, 33, 200}) {
            refusesDisguised("INIT of " + size, new SealedWire(), 1, Hands.filled(size, 20));
            refusesDisguised("INIT of " + size, new SealedWire(), 0, Hands.filled(size, 20));
        }
        for (int size : new int[] {1, 32, 34, 97}) {
            SealedWire x = new SealedWire();
            x.begin(0);
            refusesDisguised("REQUEST of " + size, x, 1, Hands.filled(size, 30));
        }
        for (int size : new int[] {1, 33, 96, 98, 200}) {
            SealedWire x = new SealedWire();
            x.begin(1);
            refusesDisguised("REPLY of " + size, x, 0, Hands.filled(size, 31));
        }
        for (int size : new int[] {2, 9, 200}) {
            SealedWire x = Hands.ready();
            x.begin(0);
            x.run(3);
            Hands.disguised(x, 0, Hands.filled(size, 21));
            CHECK.due("NEW of " + size, x.come(1), -3);
        }
        SealedWire x = Hands.ready();
        x.begin(0);
        x.run(3);
        Hands.disguised(x, 0, Hands.filled(1, 21));
        CHECK.due("NEW of 1", x.come(1), 21);
    }

    private static void gone() {
        SealedWire x = new SealedWire();
        Hands.send(x, 0, Hands.bytes(94, 1));
        Hands.send(x, 0, Hands.bytes(77));
        Hands.send(x, 0, Hands.bytes(1));
        Hands.send(x, 1, Hands.bytes(1));
        CHECK.due("come to an end that ended", x.come(1), -4);
        CHECK.due("it is gone and not counted", Hands.about(x, 1), "0 1 0 0 0 2 0 0 -1");
        CHECK.due("nothing is answered", x.about(0, 5), 1);
        CHECK.due("again", x.come(1), -4);
        CHECK.due("END, too", x.come(1), -4);
        CHECK.due("until there is none", x.come(1), -1);
        CHECK.due("packets to an end that ended are there", x.come(0), -4);
    }

    private static void fullWire() {
        for (int end = 0; end < 2; end++) {
            SealedWire x = new SealedWire();
            int at = end;
            for (int i = 0; i < 12; i++) {
                Hands.send(x, end, Hands.bytes(94, i));
            }
            CHECK.due("twelve have room", Hands.about(x, end), "1 12 0 0 0 0 0 0 -1");
            Hands.send(x, end, Hands.bytes(94, 12));
            CHECK.due("the next is lost", Hands.about(x, end), "0 12 0 0 0 0 0 0 -1");
            CHECK.due("and no END goes", x.about(1 - end, 5), 12);
            Hands.type(x, Hands.bytes(94));
            CHECK.refuses("it ended", IllegalStateException.class, () -> x.send(at));
            CHECK.due("twelve come", x.run(50), 12);
            CHECK.due("the other got them", Hands.about(x, 1 - end), "1 0 12 12 0 0 0 0 -1");
            SealedWire y = new SealedWire();
            for (int i = 0; i < 12; i++) {
                Hands.send(y, end, Hands.bytes(2));
            }
            y.begin(end);
            CHECK.due("INIT is lost", y.about(1 - end, 5), 12);
            CHECK.due("and not counted", y.about(end, 1), 12);
            CHECK.due("who begins then ends", y.about(end, 0), 0);
            SealedWire z = new SealedWire();
            for (int i = 0; i < 12; i++) {
                Hands.send(z, end, Hands.bytes(2));
            }
            Hands.send(z, end, Hands.bytes(1));
            CHECK.due("END is lost, and it ends", Hands.about(z, end), "0 12 0 0 0 0 0 0 -1");
        }
    }

    private static SealedWire filledFrom(int end, int count) {
        SealedWire x = Hands.ready();
        for (int i = 0; i < count; i++) {
            Hands.send(x, end, Hands.bytes(2));
        }
        return x;
    }

    private static void fullWireMeetsAnswers() {
        SealedWire x = filledFrom(1, 12);
        Hands.send(x, 0, Hands.bytes(77));
        CHECK.due("not known", x.come(1), 77);
        CHECK.due("UNKNOWN is lost, the end ends", Hands.about(x, 1), "0 12 1 0 0 0 0 0 -1");
        SealedWire y = filledFrom(1, 12);
        Hands.send(y, 0, Hands.bytes(2));
        y.damage(1, 0, 0, 1);
        CHECK.due("broken", y.come(1), -2);
        CHECK.due("END is lost", Hands.about(y, 1), "0 12 1 0 0 0 0 0 -1");
        SealedWire z = filledFrom(0, 11);
        z.begin(1);
        CHECK.due("INIT", z.come(0), 20);
        CHECK.due("INIT goes, REQUEST is lost", Hands.about(z, 0), "0 12 1 0 0 0 1 1 -1");
        CHECK.due("twelve to the server", z.about(1, 5), 12);
    }

    private static void run() {
        SealedWire x = new SealedWire();
        for (int n : new int[] {-1, 51, Integer.MIN_VALUE, Integer.MAX_VALUE}) {
            CHECK.refuses("run(" + n + ")", IllegalArgumentException.class, () -> x.run(n));
        }
        for (int i = 0; i < 4; i++) {
            Hands.send(x, 0, Hands.bytes(94, i));
        }
        for (int i = 0; i < 2; i++) {
            Hands.send(x, 1, Hands.bytes(94, i));
        }
        CHECK.due("run(0)", x.run(0), 0);
        CHECK.due("run(1)", x.run(1), 1);
        CHECK.due("the server is first", x.about(1, 5) * 10 + x.about(0, 5), 32);
        CHECK.due("run(1) again", x.run(1), 1);
        CHECK.due("each run begins with it", x.about(1, 5) * 10 + x.about(0, 5), 22);
        CHECK.due("run(3)", x.run(3), 3);
        CHECK.due("in turn", x.about(1, 5) * 10 + x.about(0, 5), 1);
        CHECK.due("run(50)", x.run(50), 1);
        CHECK.due("the client's last came, with none to the server", x.about(0, 5), 0);
        SealedWire y = new SealedWire();
        Hands.send(y, 0, Hands.bytes(2));
        Hands.send(y, 0, Hands.bytes(2));
        Hands.send(y, 1, Hands.bytes(1));
        CHECK.due("those to an end that ended count", y.run(50), 3);
        CHECK.due("but did not come", y.about(1, 2), 0);
        SealedWire z = new SealedWire();
        for (int i = 0; i < 12; i++) {
            Hands.send(z, 0, Hands.bytes(77));
            Hands.send(z, 1, Hands.bytes(77));
        }
        // The server's first answer finds twelve packets to the client, so it ends.
        CHECK.due("all come, with twelve UNKNOWN of the client", z.run(50), 36);
        CHECK.due("the server met a full wire", Hands.about(z, 1), "0 12 1 0 0 0 0 0 -1");
        CHECK.due("the client did not", Hands.about(z, 0), "1 24 12 0 0 0 0 0 -1");
    }

    private static void packet() {
        SealedWire x = new SealedWire();
        Hands.send(x, 0, Hands.bytes(94, 7));
        Hands.send(x, 0, Hands.filled(20, 2));
        CHECK.due("bytes of the first", x.packet(1, 0, -1), 16);
        CHECK.due("bytes of the second", x.packet(1, 1, -1), 32);
        CHECK.due("a byte", x.packet(1, 0, 6), 7);
        CHECK.due("the last", x.packet(1, 1, 31), 0);
        for (int k : new int[] {-1, 2, 12, Integer.MIN_VALUE, Integer.MAX_VALUE}) {
            CHECK.refuses("packet " + k, NoSuchElementException.class, () -> x.packet(1, k, 0));
            CHECK.refuses("packet " + k + " without that byte", NoSuchElementException.class, () -> x.packet(1, k, -9));
        }
        for (int i : new int[] {-2, 16, Integer.MIN_VALUE, Integer.MAX_VALUE}) {
            CHECK.refuses("byte " + i, IndexOutOfBoundsException.class, () -> x.packet(1, 0, i));
        }
        x.come(1);
        CHECK.due("the second is the first now", x.packet(1, 0, -1), 32);
        for (int i = 0; i < 30; i++) {
            Hands.send(x, 0, Hands.bytes(94, i));
            CHECK.due("the last one", x.packet(1, 1, 6), i);
            x.come(1);
        }
    }

    private static void damage() {
        SealedWire x = new SealedWire();
        Hands.send(x, 0, Hands.bytes(94, 7));
        Hands.send(x, 0, Hands.bytes(94, 7));
        x.damage(1, 1, 6, 255);
        CHECK.due("the second is damaged", x.packet(1, 1, 6), 7 ^ 255);
        CHECK.due("the first is not", x.packet(1, 0, 6), 7);
        x.damage(1, 1, 6, 0);
        CHECK.due("XOR 0", x.packet(1, 1, 6), 7 ^ 255);
        for (int k : new int[] {-1, 2, Integer.MAX_VALUE}) {
            CHECK.refuses("packet " + k, NoSuchElementException.class, () -> x.damage(1, k, -1, -1));
        }
        for (int i : new int[] {-2, -1, 16, Integer.MAX_VALUE}) {
            CHECK.refuses("byte " + i, IndexOutOfBoundsException.class, () -> x.damage(1, 0, i, 256));
        }
        for (int by : new int[] {-1, 256, Integer.MIN_VALUE}) {
            CHECK.refuses("XOR " + by, IllegalArgumentException.class, () -> x.damage(1, 0, 15, by));
        }
        CHECK.due("no damage by calls that throw", Hands.packet(x, 1, 0), "0000000c095e07" + "00".repeat(9));
        x.damage(1, 1, 6, 255);
        CHECK.due("two come", x.run(2), 2);
        CHECK.due("as they were sent", x.got(1, 0) + x.got(1, 1), 14);
    }

    private static void got() {
        SealedWire x = new SealedWire();
        Hands.send(x, 1, Hands.bytes(94, 7, 8));
        x.come(0);
        CHECK.due("got", x.got(0, 1), 8);
        for (int i : new int[] {-1, 2, 1999, Integer.MIN_VALUE, Integer.MAX_VALUE}) {
            CHECK.refuses("got " + i, IndexOutOfBoundsException.class, () -> x.got(0, i));
        }
        CHECK.refuses("the other got nothing", IndexOutOfBoundsException.class, () -> x.got(1, 0));
        Hands.send(x, 0, Hands.bytes(1));
        CHECK.due("an end that ended has what it got", x.got(0, 0), 7);
    }

    private static void about() {
        SealedWire x = new SealedWire();
        for (int what : new int[] {-1, 9, Integer.MIN_VALUE, Integer.MAX_VALUE}) {
            CHECK.refuses("about " + what, IndexOutOfBoundsException.class, () -> x.about(0, what));
        }
        x.begin(1);
        CHECK.due("INIT to the client", Hands.about(x, 0), "1 0 0 0 0 1 0 0 -1");
        CHECK.due("INIT from the server", Hands.about(x, 1), "1 1 0 0 0 0 1 0 -1");
        x.come(0);
        CHECK.due("INIT and REQUEST from the client", Hands.about(x, 0), "1 2 1 0 0 0 1 1 -1");
        CHECK.due("to the server", Hands.about(x, 1), "1 1 0 0 0 2 1 0 -1");
    }

    private static void session() {
        SealedWire x = new SealedWire();
        for (int i : new int[] {-1, 32, Integer.MIN_VALUE, Integer.MAX_VALUE}) {
            CHECK.refuses("session " + i, IndexOutOfBoundsException.class, () -> x.session(0, i));
        }
        CHECK.refuses("no session", IllegalStateException.class, () -> x.session(1, 31));
    }
}
