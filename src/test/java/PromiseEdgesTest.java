import java.util.NoSuchElementException;

/** Edges that promises 1 to 17 name, sentence by sentence: the last that is taken, the first that is not. */
final class PromiseEdgesTest {
    private static final Check CHECK = new Check();
    private static final int[] NO_ENDS = {Integer.MIN_VALUE, -2, -1, 2, 3, 256, Integer.MAX_VALUE};

    public static void main(String[] args) {
        newObject();
        type();
        setWhat();
        setSizes();
        setCounts();
        multiply();
        hash();
        stream();
        tag();
        out();
        begin();
        sendSizes();
        sendFirstBytes();
        sendInAnExchange();
        sendEnd();
        come();
        run();
        runStopsAtFifty();
        packet();
        damage();
        got();
        about();
        session();
        CHECK.close();
    }

    private static SealedWire typed(int size) {
        SealedWire x = new SealedWire();
        Hands.type(x, Hands.filled(size, 94));
        return x;
    }

    private static void newObject() {
        CHECK.of("Both ends live, have no keys; all secrets and rows are zeros; the tape is empty");
        SealedWire x = new SealedWire();
        CHECK.refuses("send of an empty tape", IllegalArgumentException.class, () -> x.send(0));
        CHECK.refuses("nothing came out", IndexOutOfBoundsException.class, () -> x.out(0));
        for (int end = 0; end < 2; end++) {
            CHECK.due("about", Hands.about(x, end), "1 0 0 0 0 0 0 0 -1");
            SealedWire y = new SealedWire();
            y.begin(end);
            CHECK.due("a cookie of zeros, no keys", Hands.packet(y, 1 - end, 0), "000000140a14" + "00".repeat(18));
        }
        SealedWire y = new SealedWire();
        byte[] zeros = Model.publicRow(new byte[32]);
        Hands.set(y, 3, zeros);
        y.begin(0);
        CHECK.due("secrets of zeros agree", y.run(50), 6);
        byte[] h = Model.digest(Hands.bytes(20), new byte[8], Hands.bytes(20), new byte[8], zeros, zeros, zeros,
                Model.product(new byte[32], zeros));
        CHECK.due("their session", Hands.session(y, 0), Hands.hex(h));
        SealedWire z = new SealedWire();
        z.begin(0);
        z.run(50);
        CHECK.due("a row of zeros is trusted, and no host has it", z.about(0, 0), 0);
        SealedWire w = new SealedWire();
        CHECK.isTrue("600 have room", typeAll(w, 75));
        CHECK.isTrue("no more", !w.type(0, 1));
    }

    private static boolean typeAll(SealedWire x, int words) {
        boolean all = true;
        for (int i = 0; i < words; i++) {
            all &= x.type(i, 8);
        }
        return all;
    }

    private static void type() {
        CHECK.of("False, changing nothing, when n is not 1 .. 8, or there would be more than 600");
        for (int n : new int[] {Integer.MIN_VALUE, -8, -1, 0, 9, 10, 16, 64, Integer.MAX_VALUE}) {
            SealedWire x = typed(3);
            CHECK.isTrue("n = " + n, !x.type(0x0102030405060708L, n));
            x.hash();
            CHECK.due("nothing changed", Hands.out(x, 32), Hands.hex(Model.digest(Hands.filled(3, 94))));
        }
        for (int n = 1; n <= 8; n++) {
            SealedWire x = typed(3);
            CHECK.isTrue("n = " + n, x.type(0xf1f2f3f4f5f6f7f8L, n));
            x.hash();
            byte[] due = {(byte) 0xf8, (byte) 0xf7, (byte) 0xf6, (byte) 0xf5, (byte) 0xf4, (byte) 0xf3, (byte) 0xf2,
                (byte) 0xf1};
            CHECK.due("the lowest first", Hands.out(x, 32),
                    Hands.hex(Model.digest(Hands.filled(3, 94), java.util.Arrays.copyOf(due, n))));
        }
        for (int size = 590; size <= 600; size++) {
            for (int n = 1; n <= 8; n++) {
                SealedWire x = typed(size);
                CHECK.isTrue(size + " and " + n, x.type(0, n) == (size + n <= 600));
            }
        }
    }

    private static void setWhat() {
        CHECK.of("IndexOutOfBoundsException for another what");
        for (int what : new int[] {Integer.MIN_VALUE, -2, -1, 6, 7, 32, Integer.MAX_VALUE}) {
            for (int size : new int[] {0, 8, 32}) {
                SealedWire x = typed(size);
                CHECK.refuses("set(" + what + ") of " + size, IndexOutOfBoundsException.class, () -> x.set(what));
            }
        }
        for (int what = 0; what <= 5; what++) {
            SealedWire x = typed(what <= 3 ? 32 : 8);
            x.set(what);
            x.hash();
            CHECK.due("set(" + what + ") took the tape", Hands.out(x, 32), Hands.hex(Model.digest()));
        }
    }

    private static void setSizes() {
        CHECK.of("IllegalArgumentException when it has not so many");
        for (int what = 0; what <= 5; what++) {
            int at = what;
            for (int size : new int[] {0, 1, 7, 8, 9, 16, 31, 32, 33, 64, 600}) {
                SealedWire x = typed(size);
                if (size == (what <= 3 ? 32 : 8)) {
                    x.set(what);
                } else {
                    CHECK.refuses("set(" + what + ") of " + size, IllegalArgumentException.class, () -> x.set(at));
                }
            }
        }
    }

    private static void setCounts() {
        CHECK.of("from the next time it is taken on; the others count at once");
        Due due = new Due();
        SealedWire x = Hands.beforeRequest(0);
        Hands.set(x, 0, Hands.counted(32, 3));
        x.run(50);
        CHECK.due("the client's secret was taken at INIT", Hands.session(x, 0), Hands.hex(due.h));
        SealedWire fresh = Hands.ready();
        Hands.set(fresh, 0, Hands.counted(32, 3));
        fresh.begin(0);
        fresh.run(2);
        byte[] newRow = Model.publicRow(Hands.counted(32, 3));
        CHECK.due("before INIT it counts", Hands.packet(fresh, 1, 0).substring(12, 76), Hands.hex(newRow));
        SealedWire late = Hands.atReply();
        Hands.set(late, 1, Hands.counted(32, 3));
        late.run(50);
        CHECK.due("the server's was taken at REQUEST", Hands.session(late, 1), Hands.hex(due.h));
        SealedWire soon = Hands.beforeRequest(0);
        Hands.set(soon, 1, Hands.counted(32, 3));
        soon.come(1);
        CHECK.due("before REQUEST it counts", Hands.packet(soon, 0, 0).substring(12 + 64, 12 + 128), Hands.hex(newRow));
        SealedWire host = Hands.beforeRequest(0);
        Hands.set(host, 2, Hands.counted(32, 3));
        host.come(1);
        CHECK.due("the host's secret at once", Hands.packet(host, 0, 0).substring(12, 12 + 64), Hands.hex(newRow));
        Hands.set(host, 3, newRow);
        host.come(0);
        CHECK.due("the row that is trusted at once", host.about(0, 0), 1);
        for (int end = 0; end < 2; end++) {
            SealedWire cookie = Hands.ready();
            Hands.set(cookie, 4 + end, Hands.counted(8, 3));
            cookie.begin(end);
            CHECK.due("the cookie at once", Hands.packet(cookie, 1 - end, 0).substring(12, 28), "030405060708090a");
        }
    }

    private static void multiply() {
        CHECK.of("IllegalArgumentException when it has not 64 bytes");
        for (int size : new int[] {0, 32, 63, 65, 96, 600}) {
            SealedWire x = typed(size);
            CHECK.refuses("multiply of " + size, IllegalArgumentException.class, x::multiply);
        }
        SealedWire x = typed(64);
        x.multiply();
        CHECK.due("of 64", Hands.out(x, 32), Hands.hex(Model.product(Hands.filled(32, 94), Hands.filled(32, 94))));
        SealedWire y = new SealedWire();
        Hands.type(y, Hands.counted(32, 0), Hands.counted(32, 32));
        y.multiply();
        CHECK.due("k is first", Hands.out(y, 32), Hands.hex(Model.product(Hands.counted(32, 0), Hands.counted(32, 32))));
    }

    private static void hash() {
        CHECK.of("The tape is taken: its HASH comes out");
        for (int size : new int[] {0, 1, 599, 600}) {
            SealedWire x = typed(size);
            x.hash();
            CHECK.due("hash of " + size, Hands.out(x, 32), Hands.hex(Model.digest(Hands.filled(size, 94))));
        }
    }

    private static void stream() {
        CHECK.of("IllegalArgumentException when it has not 32 bytes, or nonce or counter is below 0");
        for (int size : new int[] {0, 1, 31, 33, 64, 600}) {
            SealedWire x = typed(size);
            CHECK.refuses("stream of " + size, IllegalArgumentException.class, () -> x.stream(0, 0));
        }
        long[] nonces = {Long.MIN_VALUE, -4294967296L, -1, 0, 1, 4294967296L, Long.MAX_VALUE};
        int[] counters = {Integer.MIN_VALUE, -1, 0, 1, Integer.MAX_VALUE};
        for (long nonce : nonces) {
            for (int counter : counters) {
                SealedWire x = typed(32);
                String what = "stream(" + nonce + ", " + counter + ")";
                if (nonce < 0 || counter < 0) {
                    CHECK.refuses(what, IllegalArgumentException.class, () -> x.stream(nonce, counter));
                } else {
                    x.stream(nonce, counter);
                    CHECK.due(what, Hands.out(x, 64),
                            Hands.hex(Model.streamOf(Hands.filled(32, 94), nonce, counter)));
                }
            }
        }
    }

    private static void tag() {
        CHECK.of("IllegalArgumentException when it has less than 32");
        for (int size : new int[] {0, 1, 16, 30, 31}) {
            SealedWire x = typed(size);
            CHECK.refuses("tag of " + size, IllegalArgumentException.class, x::tag);
        }
        for (int size : new int[] {32, 33, 599, 600}) {
            SealedWire x = typed(size);
            x.tag();
            CHECK.due("tag of " + size, Hands.out(x, 16),
                    Hands.hex(Model.tagOf(Hands.filled(32, 94), Hands.filled(size - 32, 94))));
        }
    }

    private static void lastOut(String what, SealedWire x, int size, int last) {
        CHECK.due(what + ": the last byte", x.out(size - 1), last & 255);
        for (int i : new int[] {Integer.MIN_VALUE, -1, size, size + 1, 600, Integer.MAX_VALUE}) {
            CHECK.refuses(what + ": out(" + i + ")", IndexOutOfBoundsException.class, () -> x.out(i));
        }
    }

    private static void out() {
        CHECK.of("Byte i of what came out last. IndexOutOfBoundsException");
        SealedWire x = new SealedWire();
        for (int i : new int[] {-1, 0, 15, 31, 63}) {
            CHECK.refuses("out(" + i + ") of nothing", IndexOutOfBoundsException.class, () -> x.out(i));
        }
        byte[] key = Hands.filled(32, 9);
        Hands.type(x, key);
        x.stream(0, 0);
        lastOut("stream", x, 64, Model.streamOf(key, 0, 0)[63]);
        x.hash();
        lastOut("hash", x, 32, Model.digest()[31]);
        Hands.type(x, key);
        x.tag();
        lastOut("tag", x, 16, 9);
        Hands.type(x, key, key);
        x.multiply();
        lastOut("multiply", x, 32, Model.product(key, key)[31]);
        Hands.type(x, key);
        x.stream(1, 0);
        lastOut("stream again", x, 64, Model.streamOf(key, 1, 0)[63]);
        Hands.type(x, key, key);
        x.multiply();
        Hands.type(x, key);
        x.set(0);
        CHECK.refuses("tag of nothing", IllegalArgumentException.class, x::tag);
        lastOut("neither set nor what throws brings anything out", x, 32, Model.product(key, key)[31]);
    }

    private static void begin() {
        CHECK.of("IllegalStateException when it ended, or has sent INIT since its last exchange was over");
        for (int end : NO_ENDS) {
            CHECK.refuses("begin(" + end + ")", NoSuchElementException.class, () -> new SealedWire().begin(end));
        }
        for (int end = 0; end < 2; end++) {
            int at = end;
            // Until NEW comes to it as the last of all packets.
            for (int came = 0; came < 6; came++) {
                SealedWire x = Hands.ready();
                x.begin(end);
                CHECK.due("packets", x.run(came), came);
                if (x.about(end, 4) == 0) {
                    CHECK.refuses("begin after " + came, IllegalStateException.class, () -> x.begin(at));
                } else {
                    x.begin(end);
                    CHECK.due("over already at " + came, x.about(end, 6), 1);
                }
            }
            SealedWire over = Hands.sealed();
            over.begin(end);
            CHECK.due("when the last is over", over.about(end, 6), 1);
            CHECK.refuses("not twice", IllegalStateException.class, () -> over.begin(at));
            SealedWire ended = new SealedWire();
            Hands.send(ended, end, Hands.bytes(1));
            CHECK.refuses("begin of an end that ended", IllegalStateException.class, () -> ended.begin(at));
            ended.begin(1 - end);
            CHECK.due("the other lives, so it may", ended.about(1 - end, 6), 1);
        }
    }

    private static void sendSizes() {
        CHECK.of("IllegalArgumentException when it has not 1 .. 200 bytes");
        for (int size : new int[] {0, 201, 202, 256, 599, 600}) {
            SealedWire x = typed(size);
            CHECK.refuses("send of " + size, IllegalArgumentException.class, () -> x.send(1));
            CHECK.due("nothing is sent", x.about(0, 5), 0);
        }
        for (int size : new int[] {1, 2, 199, 200}) {
            SealedWire x = typed(size);
            x.send(1);
            CHECK.due("send of " + size, x.about(0, 5), 1);
        }
        for (int end : NO_ENDS) {
            SealedWire x = typed(1);
            CHECK.refuses("send(" + end + ")", NoSuchElementException.class, () -> x.send(end));
        }
    }

    private static boolean isInner(int message) {
        return message == 20 || message == 21 || message == 30 || message == 31;
    }

    private static void sendFirstBytes() {
        CHECK.of("IllegalStateException when the end ended, or the first byte is 20, 21, 30 or 31");
        for (int end = 0; end < 2; end++) {
            int at = end;
            for (int message = 0; message < 256; message++) {
                SealedWire x = new SealedWire();
                Hands.type(x, Hands.bytes(message, 1));
                if (isInner(message)) {
                    CHECK.refuses("send of " + message, IllegalStateException.class, () -> x.send(at));
                    CHECK.due("it is not sent", x.about(1 - end, 5), 0);
                } else {
                    x.send(end);
                    CHECK.due("it is sent", x.packet(1 - end, 0, 5), message);
                }
                Hands.send(x, 1 - end, Hands.bytes(1));
                x.come(end);
                Hands.type(x, Hands.bytes(message));
                CHECK.refuses("by an end that ended", IllegalStateException.class, () -> x.send(at));
            }
        }
    }

    private static void sendInAnExchange() {
        CHECK.of("or the end has sent INIT and not NEW since its last exchange was over, and the first byte is not 1, 2 or 3");
        for (int end = 0; end < 2; end++) {
            for (int came = 0; came <= 6; came++) {
                for (int message : new int[] {0, 1, 2, 3, 4, 19, 20, 21, 22, 30, 31, 93, 94, 95, 255}) {
                    sendAfter(end, came, message);
                }
            }
        }
    }

    /** The client begins, then so many packets come: the third is REQUEST, the fourth REPLY, then twice NEW. */
    private static void sendAfter(int end, int came, int message) {
        SealedWire x = Hands.ready();
        x.begin(0);
        x.run(came);
        boolean sentInit = end == 0 || came >= 1;
        boolean sentNew = came >= (end == 0 ? 4 : 3);
        boolean refused = isInner(message) || sentInit && !sentNew && (message < 1 || message > 3);
        String what = "end " + end + " after " + came + " sends " + message;
        int packets = x.about(1 - end, 5);
        Hands.type(x, Hands.bytes(message));
        if (refused) {
            CHECK.refuses(what, IllegalStateException.class, () -> x.send(end));
        } else {
            x.send(end);
        }
        CHECK.due(what + ": packets", x.about(1 - end, 5), packets + (refused ? 0 : 1));
    }

    private static void sendEnd() {
        CHECK.of("(With the first byte 1 it ends.)");
        for (int end = 0; end < 2; end++) {
            for (int message = 0; message <= 3; message++) {
                SealedWire x = new SealedWire();
                Hands.send(x, end, Hands.bytes(message, 1, 1));
                CHECK.due("lives after " + message, x.about(end, 0), message == 1 ? 0 : 1);
            }
        }
    }

    private static void come() {
        CHECK.of("-1 when there is none (also of an end that ended), -2 ..., -3 ..., -4 when the end had ended");
        for (int end : NO_ENDS) {
            CHECK.refuses("come(" + end + ")", NoSuchElementException.class, () -> new SealedWire().come(end));
        }
        for (int end = 0; end < 2; end++) {
            SealedWire x = new SealedWire();
            CHECK.due("none", x.come(end), -1);
            CHECK.due("none is not counted", x.about(end, 2), 0);
            Hands.send(x, end, Hands.bytes(1));
            CHECK.due("none, and it ended", x.come(end), -1);
            Hands.send(x, 1 - end, Hands.bytes(2));
            CHECK.due("one, and it ended", x.come(end), -4);
            CHECK.due("none again", x.come(end), -1);
            SealedWire broken = new SealedWire();
            Hands.send(broken, 1 - end, Hands.bytes(94, 1));
            broken.damage(end, 0, 3, 1);
            CHECK.due("broken", broken.come(end), -2);
            CHECK.due("it counts as one that came", broken.about(end, 2), 1);
            SealedWire misplaced = new SealedWire();
            Hands.disguised(misplaced, 1 - end, Hands.bytes(21));
            CHECK.due("not in its place", misplaced.come(end), -3);
            SealedWire longer = new SealedWire();
            Hands.disguised(longer, 1 - end, Hands.filled(10, 20));
            CHECK.due("not so many bytes", longer.come(end), -3);
            for (int message : new int[] {0, 2, 3, 94, 255}) {
                SealedWire any = new SealedWire();
                Hands.send(any, 1 - end, Hands.bytes(message));
                CHECK.due("its message", any.come(end), message);
            }
        }
    }

    private static void run() {
        CHECK.of("IllegalArgumentException when n is not 0 .. 50");
        for (int n : new int[] {Integer.MIN_VALUE, -1, 51, 52, Integer.MAX_VALUE}) {
            SealedWire x = typed(1);
            x.send(0);
            CHECK.refuses("run(" + n + ")", IllegalArgumentException.class, () -> x.run(n));
            CHECK.due("nothing came", x.about(1, 5), 1);
        }
        for (int n : new int[] {0, 1, 2, 3, 49, 50}) {
            SealedWire x = new SealedWire();
            Hands.send(x, 0, Hands.bytes(2));
            Hands.send(x, 0, Hands.bytes(2));
            CHECK.due("run(" + n + ") of two", x.run(n), Math.min(n, 2));
            CHECK.due("left", x.about(1, 5), 2 - Math.min(n, 2));
        }
        SealedWire x = new SealedWire();
        CHECK.due("of none", x.run(50), 0);
        Hands.send(x, 1, Hands.bytes(2));
        CHECK.due("an end to which there is none is passed", x.run(1), 1);
        SealedWire y = new SealedWire();
        Hands.send(y, 1, Hands.bytes(1));
        for (int i = 0; i < 3; i++) {
            Hands.send(y, 0, Hands.bytes(2));
        }
        CHECK.due("those to an end that ended count", y.run(2), 2);
        CHECK.due("two to the server, none to the client: in turn", y.about(1, 5) * 10 + y.about(0, 5), 20);
    }

    /** 24 packets, an UNKNOWN for 22 of them, and five more of an exchange are 51. */
    private static void runStopsAtFifty() {
        CHECK.of("until there are none, or n came");
        for (int n = 48; n <= 50; n++) {
            SealedWire x = Hands.ready();
            Hands.send(x, 0, Hands.bytes(2));
            for (int i = 0; i < 10; i++) {
                Hands.send(x, 0, Hands.bytes(77));
            }
            x.begin(0);
            for (int i = 0; i < 12; i++) {
                Hands.send(x, 1, Hands.bytes(77));
            }
            CHECK.due("run(" + n + ")", x.run(n), n);
            CHECK.due("left", x.about(0, 5) + x.about(1, 5) > 0 ? 1 : 0, 1);
            CHECK.due("the rest", x.run(50), 51 - n);
            CHECK.due("both live", x.about(0, 0) + x.about(1, 0), 2);
            CHECK.due("over at both", x.about(0, 4) + x.about(1, 4), 2);
        }
    }

    private static void packet() {
        CHECK.of("how many bytes it has for i = -1. NoSuchElementException (the packet, too); IndexOutOfBoundsException");
        for (int end : NO_ENDS) {
            CHECK.refuses("packet to " + end, NoSuchElementException.class, () -> new SealedWire().packet(end, 0, 0));
        }
        for (int end = 0; end < 2; end++) {
            int at = end;
            SealedWire x = new SealedWire();
            for (int i = 0; i < 12; i++) {
                int count = i;
                CHECK.refuses("packet " + i, NoSuchElementException.class, () -> x.packet(at, count, -1));
                Hands.send(x, 1 - end, Hands.filled(1 + 17 * i, 2));
                int size = Model.sealedPacket(Hands.filled(1 + 17 * i, 2), null, 0).length;
                CHECK.due("bytes", x.packet(end, i, -1), size);
                CHECK.due("the first", x.packet(end, i, 0), 0);
                CHECK.due("the last", x.packet(end, i, size - 1), 0);
                for (int byteAt : new int[] {Integer.MIN_VALUE, -2, size, size + 1, Integer.MAX_VALUE}) {
                    CHECK.refuses("byte " + byteAt, IndexOutOfBoundsException.class, () -> x.packet(at, count, byteAt));
                }
            }
            for (int k : new int[] {Integer.MIN_VALUE, -1, 12, 13, Integer.MAX_VALUE}) {
                CHECK.refuses("packet " + k, NoSuchElementException.class, () -> x.packet(at, k, -1));
            }
            CHECK.refuses("to the other", NoSuchElementException.class, () -> x.packet(1 - at, 0, -1));
        }
    }

    private static void damage() {
        CHECK.of("Byte i of the k-th packet to an end is XOR x (0 .. 255)");
        for (int end : NO_ENDS) {
            CHECK.refuses("damage to " + end, NoSuchElementException.class,
                    () -> new SealedWire().damage(end, 0, 0, 0));
        }
        for (int end = 0; end < 2; end++) {
            int at = end;
            SealedWire x = new SealedWire();
            for (int i = 0; i < 12; i++) {
                int count = i;
                CHECK.refuses("packet " + i, NoSuchElementException.class, () -> x.damage(at, count, 0, 0));
                Hands.send(x, 1 - end, Hands.bytes(2));
                x.damage(end, i, 5, i);
                CHECK.due("XOR " + i, x.packet(end, i, 5), 2 ^ i);
            }
            CHECK.refuses("packet 12", NoSuchElementException.class, () -> x.damage(at, 12, 0, 0));
            CHECK.refuses("packet -1", NoSuchElementException.class, () -> x.damage(at, -1, 0, 0));
            for (int i : new int[] {Integer.MIN_VALUE, -2, -1, 16, 17, Integer.MAX_VALUE}) {
                CHECK.refuses("byte " + i, IndexOutOfBoundsException.class, () -> x.damage(at, 3, i, 0));
            }
            for (int by : new int[] {Integer.MIN_VALUE, -256, -1, 256, 257, Integer.MAX_VALUE}) {
                CHECK.refuses("XOR " + by, IllegalArgumentException.class, () -> x.damage(at, 3, 0, by));
            }
            x.damage(end, 3, 0, 255);
            x.damage(end, 3, 15, 1);
            x.damage(end, 3, 4, 0);
            CHECK.due("only these bytes", Hands.packet(x, end, 3), "ff00000c0a01" + "00".repeat(9) + "01");
        }
    }

    private static void got() {
        CHECK.of("Byte i of what an end GOT. NoSuchElementException; IndexOutOfBoundsException");
        for (int end : NO_ENDS) {
            CHECK.refuses("got of " + end, NoSuchElementException.class, () -> new SealedWire().got(end, 0));
        }
        for (int end = 0; end < 2; end++) {
            int at = end;
            SealedWire x = new SealedWire();
            for (int size = 0; size < 4; size++) {
                int count = size;
                for (int i = 0; i < size; i++) {
                    CHECK.due("byte " + i, x.got(end, i), 250 + i);
                }
                for (int i : new int[] {Integer.MIN_VALUE, -1, size, size + 1, 1999, 2000, Integer.MAX_VALUE}) {
                    CHECK.refuses("byte " + i + " of " + count, IndexOutOfBoundsException.class, () -> x.got(at, i));
                }
                Hands.send(x, 1 - end, Hands.bytes(94, 250 + size));
                x.come(end);
            }
        }
        SealedWire full = new SealedWire();
        for (int i = 0; i < 20; i++) {
            Hands.send(full, 0, Hands.bytes(94), Hands.filled(100, i));
            full.come(1);
        }
        CHECK.due("the last of 2000", full.got(1, 1999), 19);
        CHECK.refuses("one more", IndexOutOfBoundsException.class, () -> full.got(1, 2000));
    }

    private static void about() {
        CHECK.of("IndexOutOfBoundsException for another what");
        for (int end : NO_ENDS) {
            CHECK.refuses("about " + end, NoSuchElementException.class, () -> new SealedWire().about(end, 0));
        }
        for (int end = 0; end < 2; end++) {
            int at = end;
            SealedWire x = new SealedWire();
            for (int what : new int[] {Integer.MIN_VALUE, -1, 9, 10, Integer.MAX_VALUE}) {
                CHECK.refuses("about " + what, IndexOutOfBoundsException.class, () -> x.about(at, what));
            }
            CHECK.due("about 0", x.about(end, 0), 1);
            CHECK.due("about 8", x.about(end, 8), -1);
            for (int size : new int[] {5, 4, 5, 6, 5, 1, 5, 200}) {
                Hands.send(x, 1 - end, Hands.bytes(3), Hands.filled(size - 1, 7));
                x.come(end);
                CHECK.due("UNKNOWN of " + size, x.about(end, 8), size == 5 ? 0x07070707 : -1);
            }
        }
    }

    private static void session() {
        CHECK.of("IndexOutOfBoundsException when i is not 0 .. 31; IllegalStateException when it has none");
        for (int end : NO_ENDS) {
            CHECK.refuses("session of " + end, NoSuchElementException.class, () -> Hands.sealed().session(end, 0));
        }
        for (int end = 0; end < 2; end++) {
            int at = end;
            SealedWire x = Hands.sealed();
            byte[] h = new Due().h;
            for (int i = 0; i < 32; i++) {
                CHECK.due("byte " + i, x.session(end, i), h[i] & 255);
            }
            SealedWire none = new SealedWire();
            for (int i : new int[] {Integer.MIN_VALUE, -1, 32, 33, Integer.MAX_VALUE}) {
                CHECK.refuses("byte " + i, IndexOutOfBoundsException.class, () -> x.session(at, i));
                CHECK.refuses("byte " + i + " of none", IndexOutOfBoundsException.class, () -> none.session(at, i));
            }
            CHECK.refuses("byte 0 of none", IllegalStateException.class, () -> none.session(at, 0));
            CHECK.refuses("byte 31 of none", IllegalStateException.class, () -> none.session(at, 31));
            Hands.send(x, end, Hands.bytes(1));
            CHECK.due("an end that ended has it still", x.session(end, 31), h[31] & 255);
        }
    }
}
