import java.util.Arrays;

/** Edges that "Terms" names for exchanges and messages, sentence by sentence. */
final class MessageEdgesTest {
    private static final Check CHECK = new Check();
    private static final String NO_KEYS_END = "0000000c0a01" + "00".repeat(10);

    /** How far an end is: nothing, INIT sent, INIT sent and got, NEW sent, the exchange over. */
    private static final int FRESH = 0;
    private static final int BEGUN = 1;
    private static final int MET = 2;
    private static final int TURNED = 3;
    private static final int OVER = 4;

    public static void main(String[] args) {
        whenTheClientAsks();
        serverAtRequest();
        trusted();
        proven();
        overAtNew();
        firstHIsSession();
        places();
        sizes();
        unknownNumber();
        initIsSentFirst();
        roomFor2000();
        otherFirstBytes();
        CHECK.close();
    }

    /** An end that is so far, with nothing on the wire to it. */
    private static SealedWire stage(int end, int stage) {
        SealedWire x = Hands.ready();
        if (stage == BEGUN) {
            x.begin(end);
        } else if (stage == MET) {
            x.begin(1 - end);
            x.come(end);
        } else if (stage == TURNED && end == 1) {
            x.begin(0);
            x.run(3);
        } else if (stage == OVER) {
            x.begin(end);
            x.run(50);
        }
        return x;
    }

    /** As the last packet to an end this payload, whatever send would say to it. */
    private static void forge(SealedWire x, int end, byte[] payload) {
        Hands.send(x, 1 - end, Hands.filled(payload.length, 2));
        int k = x.about(end, 5) - 1;
        byte[][] keys = x.about(end, 4) == 0 ? null : new Due().keys(1 - end);
        byte[] row = Model.sealedPacket(payload, keys, x.about(1 - end, 1) - 1);
        for (int i = 0; i < row.length; i++) {
            x.damage(end, k, i, x.packet(end, k, i) ^ row[i] & 255);
        }
    }

    /** An end that is so far, with this payload as the next that comes to it. */
    private static SealedWire stageWith(int end, int stage, byte[] payload) {
        if (end == 0 && stage == TURNED) {
            // What the server sends behind REPLY has keys, so REPLY is made of what it sent before.
            SealedWire x = Hands.beforeRequest(0);
            Hands.send(x, 1, Hands.filled(97, 2));
            Hands.rewrite(x, 0, 0, new Due().reply());
            forge(x, 0, payload);
            CHECK.due("REPLY before", x.come(0), 31);
            return x;
        }
        SealedWire x = stage(end, stage);
        forge(x, end, payload);
        return x;
    }

    private static void whenTheClientAsks() {
        CHECK.of("When the client has sent and got INIT, it takes its SECRET, and sends REQUEST with its public row");
        SealedWire sent = stage(0, BEGUN);
        CHECK.due("INIT was sent alone", sent.about(1, 5), 1);
        SealedWire got = stage(0, FRESH);
        got.begin(1);
        CHECK.due("INIT comes", got.come(0), 20);
        CHECK.due("INIT and REQUEST", got.packet(1, 0, 5) * 100 + got.packet(1, 1, 5), 2030);
        SealedWire both = stage(0, BEGUN);
        both.begin(1);
        CHECK.due("INIT comes", both.come(0), 20);
        CHECK.due("two packets", both.about(1, 5), 2);
        CHECK.due("INIT and REQUEST", both.packet(1, 0, 5) * 100 + both.packet(1, 1, 5), 2030);
        CHECK.due("REQUEST", Hands.packet(both, 1, 1).substring(10, 76), "1e" + Hands.hex(new Due().clientPublic));
        SealedWire server = stage(1, MET);
        CHECK.due("the server sends INIT alone", server.about(0, 5), 1);
    }

    private static void serverAtRequest() {
        CHECK.of("The server, at REQUEST, takes its secret, sends REPLY, then NEW, and has new keys for sending");
        SealedWire x = Hands.beforeRequest(0);
        CHECK.due("nothing before", x.about(0, 5), 0);
        CHECK.refuses("no session before", IllegalStateException.class, () -> x.session(1, 0));
        x.come(1);
        CHECK.due("two packets", x.about(0, 5), 2);
        CHECK.due("REPLY and NEW", x.packet(0, 0, 5) * 100 + x.packet(0, 1, 5), 3121);
        CHECK.due("NEW has no keys", x.packet(0, 1, -1), 16);
        Hands.send(x, 1, Hands.bytes(2));
        CHECK.due("what comes behind has", x.packet(0, 2, -1), 28);
    }

    private static void refused(String what, SealedWire x) {
        CHECK.due(what + ": come answers 31 all the same", x.come(0), 31);
        CHECK.due(what + ": it ends", x.about(0, 0), 0);
        CHECK.due(what + ": END", Hands.packet(x, 1, 0), NO_KEYS_END);
        CHECK.due(what + ": no NEW", x.about(1, 5), 1);
        CHECK.refuses(what + ": no session", IllegalStateException.class, () -> x.session(0, 31));
    }

    private static void trusted() {
        CHECK.of("if the host's row is not the one that it TRUSTS");
        for (int bit = 0; bit < 256; bit++) {
            byte[] row = new Due().hostRow;
            row[bit >> 3] ^= (byte) (1 << (bit & 7));
            SealedWire x = Hands.atReply();
            Hands.set(x, 3, row);
            refused("bit " + bit, x);
        }
        SealedWire right = Hands.atReply();
        Hands.set(right, 3, new Due().hostRow);
        CHECK.due("REPLY", right.come(0), 31);
        CHECK.due("it lives", right.about(0, 0), 1);
    }

    private static void proven() {
        CHECK.of("or the PROOF is another one");
        for (int bit = 0; bit < 256; bit++) {
            SealedWire x = Hands.atReply();
            x.damage(0, 0, 5 + 65 + (bit >> 3), 1 << (bit & 7));
            refused("bit " + bit, x);
        }
        SealedWire right = Hands.atReply();
        right.damage(0, 0, 5 + 65, 0);
        CHECK.due("REPLY", right.come(0), 31);
        CHECK.due("otherwise it sends NEW", right.packet(1, 0, 5), 21);
        CHECK.due("without keys", right.packet(1, 0, -1), 16);
        Hands.send(right, 0, Hands.bytes(2));
        CHECK.due("and has new keys for sending", right.packet(1, 1, -1), 28);
    }

    private static void overAtNew() {
        CHECK.of("At NEW an end has new keys for what comes, and the exchange is over at it");
        for (int end = 0; end < 2; end++) {
            SealedWire x = stageWith(end, TURNED, Hands.bytes(21));
            CHECK.due("before", Hands.about(x, end).substring(8), "0 1 1 1 -1");
            CHECK.due("NEW", x.come(end), 21);
            CHECK.due("over", x.about(end, 4), 1);
            CHECK.due("no INIT since", x.about(end, 6) + x.about(end, 7), 0);
            SealedWire y = stageWith(end, TURNED, Hands.bytes(21));
            Hands.disguised(y, 1 - end, Hands.bytes(2));
            y.come(end);
            CHECK.due("what has no keys is broken then", y.come(end), -2);
        }
    }

    private static void firstHIsSession() {
        CHECK.of("The first H that an end has (the client: if the proof was right) is its SESSION");
        String h = Hands.hex(new Due().h);
        SealedWire x = Hands.sealed();
        for (int end = 0; end < 2; end++) {
            CHECK.due("the first", Hands.session(x, end), h);
        }
        Hands.set(x, 0, Hands.counted(32, 8));
        Hands.set(x, 1, Hands.counted(32, 9));
        Hands.set(x, 4, Hands.counted(8, 8));
        x.begin(0);
        x.run(50);
        for (int end = 0; end < 2; end++) {
            CHECK.due("the second exchange is over", x.about(end, 4), 2);
            CHECK.due("the first still", Hands.session(x, end), h);
        }
        SealedWire y = Hands.sealed();
        Hands.set(y, 3, new byte[32]);
        y.begin(0);
        y.run(50);
        CHECK.due("the second proof was not right: it ended", y.about(0, 0), 0);
        CHECK.due("the first session is left", Hands.session(y, 0), h);
        SealedWire z = Hands.atReply();
        z.damage(0, 0, 80, 1);
        z.come(0);
        CHECK.refuses("the first proof was not right", IllegalStateException.class, () -> z.session(0, 0));
        CHECK.due("the server has its H", Hands.session(z, 1), h);
    }

    private static boolean hasPlace(int end, int stage, int message) {
        switch (message) {
            case 20:
                return stage == FRESH || stage == BEGUN || stage == OVER;
            case 21:
                return stage == TURNED;
            case 30:
                return end == 1 && stage == MET;
            case 31:
                return end == 0 && stage == MET;
            case 94:
                return stage == FRESH || stage == BEGUN || stage == OVER;
            default:
                return true;
        }
    }

    private static int sizeOf(int message) {
        return message == 20 ? 9 : message == 30 ? 33 : message == 31 ? 97 : message == 3 ? 5 : 1;
    }

    private static void comesOrEnds(SealedWire x, int end, byte[] payload, boolean place, String what) {
        int message = payload[0] & 255;
        int came = x.about(end, 2);
        int sent = x.about(end, 1);
        int before = x.about(1 - end, 5);
        int got = x.about(end, 3);
        CHECK.due(what, x.come(end), place ? message : -3);
        CHECK.due(what + ": it came", x.about(end, 2), came + 1);
        if (!place) {
            CHECK.due(what + ": it ended", x.about(end, 0), 0);
            CHECK.due(what + ": one packet was sent", x.about(end, 1), sent + 1);
            CHECK.due(what + ": it is on the wire", x.about(1 - end, 5), before + 1);
            CHECK.due(what + ": nothing was got", x.about(end, 3), got);
        } else if (message == 1) {
            CHECK.due(what + ": END ends", x.about(end, 0), 0);
            CHECK.due(what + ": it sends nothing", x.about(end, 1), sent);
        } else if (message != 31) {
            CHECK.due(what + ": it lives", x.about(end, 0), 1);
        }
    }

    private static void places() {
        CHECK.of("INIT: in its place ... REQUEST: ... REPLY: ... NEW: ... DATA: ... If one of these is not in its place");
        for (int end = 0; end < 2; end++) {
            for (int stage = FRESH; stage <= OVER; stage++) {
                for (int message : new int[] {0, 1, 2, 3, 4, 20, 21, 30, 31, 77, 94, 255}) {
                    byte[] payload = Hands.filled(sizeOf(message), message);
                    SealedWire x = stageWith(end, stage, payload);
                    comesOrEnds(x, end, payload, hasPlace(end, stage, message),
                            "message " + message + " to end " + end + " at stage " + stage);
                }
            }
        }
    }

    private static void sizes() {
        CHECK.of("or has not just so many bytes (DATA any)");
        for (int end = 0; end < 2; end++) {
            for (int stage = FRESH; stage <= OVER; stage++) {
                for (int message : new int[] {1, 2, 3, 20, 21, 30, 31, 94, 100}) {
                    boolean any = message <= 3 || message >= 94;
                    int due = sizeOf(message);
                    for (int size : new int[] {1, due - 1, due, due + 1, 199, 200}) {
                        if (size == 0) {
                            continue;
                        }
                        byte[] payload = Hands.filled(size, message);
                        SealedWire x = stageWith(end, stage, payload);
                        comesOrEnds(x, end, payload, hasPlace(end, stage, message) && (any || size == due),
                                "message " + message + " of " + size + " to end " + end + " at stage " + stage);
                    }
                }
            }
        }
    }

    private static void unknownNumber() {
        CHECK.of("UNKNOWN and the sequence number of the packet that was not known (big, 4 bytes)");
        for (int number : new int[] {0, 1, 255, 256, 0x7fffffff, 0x80000000, 0xfffffffe, -1}) {
            SealedWire x = new SealedWire();
            Hands.send(x, 0, Hands.bytes(3), Model.big(number, 4));
            CHECK.due("UNKNOWN", x.come(1), 3);
            CHECK.due("as an int", x.about(1, 8), number);
            CHECK.due("nothing is answered", x.about(0, 5), 0);
        }
        SealedWire x = new SealedWire();
        for (int i = 0; i < 5; i++) {
            Hands.send(x, 1, Hands.bytes(i == 2 ? 2 : 100));
        }
        CHECK.due("five and four", x.run(50), 9);
        CHECK.due("the last was packet 4", x.about(1, 8), 4);
    }

    private static void initIsSentFirst() {
        CHECK.of("it sends INIT first, if it has not");
        SealedWire x = stage(1, MET);
        CHECK.due("INIT", x.packet(0, 0, 5), 20);
        CHECK.due("it counts as sent", x.about(1, 6), 1);
        CHECK.refuses("so it can't begin", IllegalStateException.class, () -> x.begin(1));
        SealedWire y = stage(1, BEGUN);
        y.begin(0);
        y.come(1);
        CHECK.due("it has, so no more", y.about(0, 5), 1);
        SealedWire z = stage(1, OVER);
        z.begin(0);
        CHECK.due("INIT of the second exchange", z.come(1), 20);
        CHECK.due("since the last was over it had not", z.about(0, 5), 1);
        CHECK.due("so it sent", z.about(1, 6), 1);
    }

    /** An end that got so many bytes. */
    private static SealedWire holding(int end, int bytes, boolean keys) {
        SealedWire x = keys ? Hands.sealed() : new SealedWire();
        for (int left = bytes; left > 0; left -= 199) {
            Hands.send(x, 1 - end, Hands.bytes(94), Hands.counted(Math.min(left, 199), left));
            CHECK.due("DATA", x.come(end), 94);
        }
        CHECK.due("bytes", x.about(end, 3), bytes);
        return x;
    }

    private static void roomFor2000() {
        CHECK.of("DATA: ... and if it would have at most 2000 bytes then: these come behind what it GOT");
        int[][] cases = {{2000, 0}, {2000, 1}, {1999, 0}, {1999, 1}, {1999, 2}, {1801, 199}, {1802, 199}, {2000, 199}};
        for (int[] sizes : cases) {
            for (int end = 0; end < 2; end++) {
                for (int keys = 0; keys < 2; keys++) {
                    SealedWire x = holding(end, sizes[0], keys == 1);
                    Hands.send(x, 1 - end, Hands.bytes(94), Hands.filled(sizes[1], 201));
                    boolean room = sizes[0] + sizes[1] <= 2000;
                    String what = sizes[0] + " and " + sizes[1];
                    CHECK.due(what, x.come(end), room ? 94 : -3);
                    CHECK.due(what + ": it lives", x.about(end, 0), room ? 1 : 0);
                    CHECK.due(what + ": bytes", x.about(end, 3), sizes[0] + (room ? sizes[1] : 0));
                    int last = x.about(end, 3) - 1;
                    CHECK.due(what + ": the last", x.got(end, last),
                            room && sizes[1] > 0 ? 201 : lastOf(sizes[0]));
                    CHECK.due(what + ": END", x.about(1 - end, 5), room ? 0 : 1);
                }
            }
        }
    }

    private static int lastOf(int bytes) {
        int left = bytes % 199 == 0 ? 199 : bytes % 199;
        return (2 * left - 1) & 255;
    }

    private static void otherFirstBytes() {
        CHECK.of("Any other first byte: it sends UNKNOWN");
        int[] known = {1, 2, 3, 20, 21, 30, 31, 94};
        for (int message = 0; message < 256; message++) {
            int first = message;
            if (Arrays.stream(known).noneMatch(other -> other == first)) {
                for (int size : new int[] {1, 200}) {
                    SealedWire x = new SealedWire();
                    Hands.send(x, 0, Hands.filled(size, message));
                    CHECK.due("message " + message, x.come(1), message);
                    CHECK.due("UNKNOWN", Hands.packet(x, 0, 0), "0000000c060300000000" + "00".repeat(6));
                    CHECK.due("it lives", Hands.about(x, 1), "1 1 1 0 0 0 0 0 -1");
                }
            }
        }
    }
}
