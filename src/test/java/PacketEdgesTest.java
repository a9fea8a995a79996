import java.util.Arrays;

/** Edges that "Terms" names for ends and packets, and when a packet is BROKEN, sentence by sentence. */
final class PacketEdgesTest {
    private static final Check CHECK = new Check();
    private static final String END_PACKET = "0000000c0a01" + "00".repeat(10);

    public static void main(String[] args) {
        endsAreTwo();
        twelvePackets();
        countsFromZero();
        numbersGoOn();
        payloads();
        zerosWithoutKeys();
        zerosWithKeys();
        firstFourBytes();
        counters();
        tagBehind();
        brokenNumber();
        brokenZeros();
        leastZeros();
        brokenPayload();
        brokenByTheTag();
        brokenByKeys();
        brokenBySequenceNumber();
        CHECK.close();
    }

    private static void endsAreTwo() {
        CHECK.of("ENDS are 0, the CLIENT, and 1, the SERVER");
        SealedWire x = new SealedWire();
        x.begin(0);
        x.begin(1);
        x.run(2);
        CHECK.due("0 is the client, which sends REQUEST", x.packet(1, 0, 5), 30);
        CHECK.due("1 is not", x.about(0, 5), 0);
        for (int end : new int[] {-1, 2}) {
            CHECK.refuses("end " + end, java.util.NoSuchElementException.class, () -> x.about(end, 0));
        }
    }

    private static void twelvePackets() {
        CHECK.of("To each leads a row of at most 12 PACKETS");
        for (int to = 0; to < 2; to++) {
            SealedWire x = new SealedWire();
            for (int i = 1; i <= 12; i++) {
                Hands.send(x, 1 - to, Hands.bytes(94, i));
                CHECK.due("packets", x.about(to, 5), i);
                CHECK.due("none to the other", x.about(1 - to, 5), 0);
            }
            CHECK.due("the sender lives", x.about(1 - to, 0), 1);
            Hands.send(x, 1 - to, Hands.bytes(94, 13));
            CHECK.due("a 13th is none", x.about(to, 5), 12);
            CHECK.due("the sender ended", x.about(1 - to, 0), 0);
            for (int i = 1; i <= 12; i++) {
                CHECK.due("the first comes first", x.packet(to, 0, 6), i);
                CHECK.due("it comes", x.come(to), 94);
            }
            CHECK.due("there are no more", x.come(to), -1);
        }
        for (int to = 0; to < 2; to++) {
            SealedWire x = new SealedWire();
            for (int i = 0; i < 40; i++) {
                Hands.send(x, 1 - to, Hands.bytes(94, i));
                if (i >= 11) {
                    CHECK.due("twelve", x.about(to, 5), 12);
                    CHECK.due("the last of twelve", x.packet(to, 11, 6), i);
                    x.come(to);
                }
            }
            CHECK.due("whenever one came there is room", x.about(1 - to, 0), 1);
            CHECK.due("in their order", x.got(to, 28), 28);
        }
    }

    private static void countsFromZero() {
        CHECK.of("Each end counts the packets that it sent, and those that came (from 0 on, for ever: SEQUENCE numbers)");
        SealedWire x = new SealedWire();
        CHECK.due("at first", x.about(0, 1) + x.about(0, 2) + x.about(1, 1) + x.about(1, 2), 0);
        Hands.send(x, 0, Hands.bytes(77));
        CHECK.due("one was sent", x.about(0, 1) * 10 + x.about(1, 2), 10);
        x.come(1);
        CHECK.due("one came", x.about(0, 1) * 10 + x.about(1, 2), 11);
        x.come(0);
        CHECK.due("the first has the number 0", x.about(0, 8), 0);
        Hands.send(x, 0, Hands.bytes(77));
        x.run(50);
        CHECK.due("the second has 1", x.about(0, 8), 1);
    }

    /** An exchange is three packets a way for two calls: so numbers above 255 and 512 are reached in time. */
    private static void numbersGoOn() {
        CHECK.of("from 0 on, for ever");
        SealedWire x = Hands.ready();
        Model y = new Model();
        ready(y);
        for (int i = 0; i < 190; i++) {
            x.begin(i % 2);
            x.run(50);
            y.begin(i % 2);
            y.run(50);
        }
        CHECK.due("so many were sent", x.about(0, 1) + x.about(1, 1), 2 * 570);
        Hands.send(x, 0, Hands.bytes(77));
        y.type(77, 1);
        y.send(0);
        CHECK.due("the packet 570", Hands.packet(x, 1, 0), packet(y, 1, 0));
        CHECK.due("it comes", x.come(1), 77);
        CHECK.due("UNKNOWN", x.come(0), 3);
        CHECK.due("has its number", x.about(0, 8), 570);
        CHECK.due("both live", x.about(0, 0) + x.about(1, 0), 2);
        aroundAByte();
    }

    private static void aroundAByte() {
        SealedWire x = Hands.ready();
        Model y = new Model();
        ready(y);
        for (int i = 0; i < 84; i++) {
            x.begin(1);
            x.run(50);
            y.begin(1);
            y.run(50);
        }
        for (int number = 252; number < 260; number++) {
            Hands.send(x, 1, Hands.bytes(77));
            y.type(77, 1);
            y.send(1);
            CHECK.due("the packet " + number, Hands.packet(x, 0, 0), packet(y, 0, 0));
            CHECK.due("two come", x.run(50), 2);
            CHECK.due("its number", x.about(1, 8), number);
            y.run(50);
        }
    }

    private static void ready(Model y) {
        byte[][] rows = {
            Hands.clientSecret(), Hands.serverSecret(), Hands.hostSecret(), Model.publicRow(Hands.hostSecret()),
            Hands.counted(8, 60), Hands.counted(8, 80)
        };
        for (int what = 0; what < rows.length; what++) {
            for (byte b : rows[what]) {
                y.type(b, 1);
            }
            y.set(what);
        }
    }

    private static String packet(Model y, int end, int k) {
        byte[] row = new byte[y.packet(end, k, -1)];
        for (int i = 0; i < row.length; i++) {
            row[i] = (byte) y.packet(end, k, i);
        }
        return Hands.hex(row);
    }

    private static void payloads() {
        CHECK.of("A packet has a PAYLOAD (1 to 200 bytes)");
        for (int size : new int[] {1, 2, 199, 200}) {
            SealedWire x = new SealedWire();
            Hands.send(x, 0, Hands.filled(size, 94));
            CHECK.due("a payload of " + size, x.come(1), 94);
            CHECK.due("bytes", x.about(1, 3), size - 1);
            SealedWire y = Hands.sealed();
            Hands.send(y, 1, Hands.filled(size, 94));
            CHECK.due("with keys: a payload of " + size, y.come(0), 94);
            CHECK.due("bytes", y.about(0, 3), size - 1);
        }
        for (int size : new int[] {0, 201, 202, 600}) {
            SealedWire x = new SealedWire();
            Hands.type(x, Hands.filled(size, 94));
            CHECK.refuses("a payload of " + size, IllegalArgumentException.class, () -> x.send(0));
            SealedWire y = Hands.sealed();
            Hands.type(y, Hands.filled(size, 94));
            CHECK.refuses("with keys: a payload of " + size, IllegalArgumentException.class, () -> y.send(0));
        }
    }

    private static void zerosWithoutKeys() {
        CHECK.of("Without keys p is the least number of 4 or more with which n + 4 is a multiple of 8");
        int[] sizes = {1, 2, 3, 4, 5, 6, 7, 8, 9, 15, 16, 192, 198, 199, 200};
        int[] zeros = {10, 9, 8, 7, 6, 5, 4, 11, 10, 4, 11, 11, 5, 4, 11};
        for (int i = 0; i < sizes.length; i++) {
            SealedWire x = new SealedWire();
            Hands.send(x, 1, Hands.filled(sizes[i], 2));
            int n = 1 + sizes[i] + zeros[i];
            CHECK.due("n", x.packet(0, 0, 3), n);
            CHECK.due("p for " + sizes[i], x.packet(0, 0, 4), zeros[i]);
            CHECK.due("bytes", x.packet(0, 0, -1), n + 4);
            CHECK.due("the rest is zeros", Hands.packet(x, 0, 0).substring(10),
                    "02".repeat(sizes[i]) + "00".repeat(zeros[i]));
        }
    }

    private static void zerosWithKeys() {
        CHECK.of("With keys: with which n is");
        int[] sizes = {1, 2, 3, 4, 5, 6, 7, 8, 9, 10, 11, 12, 195, 196, 199, 200};
        int[] zeros = {6, 5, 4, 11, 10, 9, 8, 7, 6, 5, 4, 11, 4, 11, 8, 7};
        for (int i = 0; i < sizes.length; i++) {
            SealedWire x = Hands.sealed();
            Hands.send(x, 1, Hands.filled(sizes[i], 2));
            CHECK.due("bytes for " + sizes[i], x.packet(0, 0, -1), 4 + 1 + sizes[i] + zeros[i] + 16);
            byte[][] keys = new Due().keys(1);
            CHECK.due("p for " + sizes[i], x.packet(0, 0, 4) ^ Model.streamOf(keys[1], 3, 1)[0] & 255, zeros[i]);
            CHECK.due("it comes", x.come(0), 2);
        }
    }

    private static void firstFourBytes() {
        CHECK.of("then the first four bytes are XOR the stream of HEAD, counter 0, the others XOR the streams of BODY");
        byte[][] keys = new Due().keys(0);
        SealedWire x = Hands.sealed();
        Hands.send(x, 0, Hands.bytes(2));
        byte[] head = Model.streamOf(keys[0], 3, 0);
        byte[] body = Model.streamOf(keys[1], 3, 1);
        int[] due = {0, 0, 0, 8, 6, 2, 0, 0, 0, 0, 0, 0};
        for (int i = 0; i < due.length; i++) {
            CHECK.due("byte " + i, x.packet(1, 0, i), due[i] ^ (i < 4 ? head[i] : body[i - 4]) & 255);
        }
    }

    private static void counters() {
        CHECK.of("counters 1, 2, and so on");
        byte[][] keys = new Due().keys(0);
        // With 59 bytes n is 64, so one stream is enough; with 60 it is 72. So with 123 and 124, 187 and 188.
        for (int size : new int[] {58, 59, 60, 61, 122, 123, 124, 125, 186, 187, 188, 189, 200}) {
            SealedWire x = Hands.sealed();
            byte[] payload = Hands.counted(size, 94);
            Hands.send(x, 0, payload);
            CHECK.due("a payload of " + size, Hands.packet(x, 1, 0), Hands.hex(Model.sealedPacket(payload, keys, 3)));
            CHECK.due("it comes", x.come(1), 94);
            for (int i = 1; i < size; i++) {
                CHECK.due("byte " + i, x.got(1, i - 1), payload[i] & 255);
            }
        }
        SealedWire x = Hands.sealed();
        Hands.send(x, 0, Hands.filled(200, 2));
        for (int counter = 1; counter <= 4; counter++) {
            byte[] stream = Model.streamOf(keys[1], 3, counter);
            int at = 4 + 64 * (counter - 1);
            CHECK.due("byte 1 of stream " + counter, x.packet(1, 0, at + 1), 2 ^ stream[1] & 255);
        }
    }

    private static void tagBehind() {
        CHECK.of("behind them comes the TAG of all that, its key being the first 32 bytes of the stream of BODY, counter 0");
        byte[][] keys = new Due().keys(1);
        for (int size : new int[] {1, 3, 4, 200}) {
            SealedWire x = Hands.sealed();
            Hands.send(x, 1, Hands.filled(size, 2));
            byte[] packet = Hands.hex(Hands.packet(x, 0, 0));
            byte[] hidden = Arrays.copyOf(packet, packet.length - 16);
            byte[] key = Arrays.copyOf(Model.streamOf(keys[1], 3, 0), 32);
            CHECK.due("the tag", Hands.hex(Arrays.copyOfRange(packet, hidden.length, packet.length)),
                    Hands.hex(Model.tagOf(key, hidden)));
        }
    }

    private static void isBroken(String what, SealedWire x, int end) {
        int came = x.about(end, 2);
        int sent = x.about(end, 1);
        CHECK.due(what, x.come(end), -2);
        CHECK.due(what + ": it ended", x.about(end, 0), 0);
        CHECK.due(what + ": counted as one that came", x.about(end, 2), came + 1);
        CHECK.due(what + ": END was sent", x.about(end, 1), sent + 1);
        CHECK.due(what + ": END comes", x.come(1 - end), 1);
    }

    private static SealedWire withPacket(byte[] payload) {
        SealedWire x = new SealedWire();
        Hands.send(x, 0, payload);
        return x;
    }

    /** Byte i of the packet is made this. */
    private static void put(SealedWire x, int i, int value) {
        x.damage(1, 0, i, x.packet(1, 0, i) ^ value);
    }

    private static void brokenNumber() {
        CHECK.of("It is BROKEN, if it is not just such a row: n being 1 and the payload's bytes and p");
        for (int size : new int[] {1, 7, 8, 200}) {
            int n = withPacket(Hands.filled(size, 94)).packet(1, 0, 3);
            for (int other : new int[] {n - 8, n - 1, n + 1, n + 8, 0, 255}) {
                SealedWire x = withPacket(Hands.filled(size, 94));
                put(x, 3, other & 255);
                isBroken("n " + other + " in place of " + n, x, 1);
            }
            for (int i = 0; i < 3; i++) {
                for (int value : new int[] {1, 128, 255}) {
                    SealedWire x = withPacket(Hands.filled(size, 94));
                    put(x, i, value);
                    isBroken("byte " + i + " of n is " + value, x, 1);
                }
            }
        }
        SealedWire same = withPacket(Hands.filled(8, 94));
        put(same, 3, same.packet(1, 0, 3));
        CHECK.due("n as it was", same.come(1), 94);
        SealedWire x = withPacket(Hands.filled(8, 94));
        x.damage(1, 0, 0, 1);
        x.come(1);
        CHECK.due("END as a packet", Hands.packet(x, 0, 0), END_PACKET);
    }

    private static void brokenZeros() {
        CHECK.of("It is BROKEN, if it is not just such a row: p zeros");
        for (int size : new int[] {1, 7, 8, 200}) {
            int bytes = withPacket(Hands.filled(size, 94)).packet(1, 0, -1);
            for (int i = 5 + size; i < bytes; i++) {
                for (int value : new int[] {1, 128, 255}) {
                    SealedWire x = withPacket(Hands.filled(size, 94));
                    put(x, i, value);
                    isBroken("a zero is " + value, x, 1);
                }
            }
            SealedWire x = withPacket(Hands.filled(size, 94));
            if (size > 1) {
                put(x, 4 + size, 0);
                CHECK.due("the payload's last byte may be any", x.come(1), 94);
            }
        }
    }

    /** A payload with many zeros at its end: with another p it would be another payload, with its zeros. */
    private static void leastZeros() {
        CHECK.of("p is the least number of 4 or more");
        for (int size = 30; size < 38; size++) {
            byte[] payload = Arrays.copyOf(Hands.bytes(94, 5), size);
            for (int p = 0; p < 40; p++) {
                SealedWire x = withPacket(payload);
                int due = x.packet(1, 0, 4);
                put(x, 4, p);
                if (p >= 4 && p <= 11) {
                    CHECK.due("p " + p + " in place of " + due, x.come(1), 94);
                    CHECK.due("bytes", x.about(1, 3), size - 1 + due - p);
                } else {
                    isBroken("p " + p + " in place of " + due, x, 1);
                }
            }
        }
    }

    private static void brokenPayload() {
        CHECK.of("of a payload of 1 to 200 bytes");
        SealedWire least = withPacket(Hands.bytes(94, 0));
        put(least, 4, 10);
        CHECK.due("a payload of 1", least.come(1), 94);
        SealedWire none = withPacket(Hands.bytes(94));
        put(none, 5, 0);
        put(none, 4, 11);
        isBroken("a payload of none", none, 1);
        for (int p : new int[] {12, 13, 127, 128, 255}) {
            SealedWire fewer = withPacket(Hands.bytes(94));
            put(fewer, 5, 0);
            put(fewer, 4, p);
            isBroken("less than none", fewer, 1);
        }
        SealedWire full = withPacket(Hands.filled(200, 94));
        CHECK.due("a packet for 200", full.packet(1, 0, 4), 11);
        CHECK.due("a payload of 200", full.come(1), 94);
        for (int p = 4; p <= 10; p++) {
            SealedWire more = withPacket(Hands.filled(200, 94));
            put(more, 4, p);
            isBroken("a payload of " + (211 - p), more, 1);
        }
    }

    private static void brokenByTheTag() {
        CHECK.of("It is BROKEN, if it is not just such a row: the TAG");
        for (int size : new int[] {1, 3, 4, 200}) {
            int bytes = 0;
            for (int i = 0; i == 0 || i < bytes; i += size == 200 ? 19 : 1) {
                SealedWire x = Hands.sealed();
                Hands.send(x, 0, Hands.filled(size, 94));
                bytes = x.packet(1, 0, -1);
                x.damage(1, 0, i, 1 << i % 8);
                isBroken("byte " + i + " of " + bytes, x, 1);
            }
            SealedWire x = Hands.sealed();
            Hands.send(x, 0, Hands.filled(size, 94));
            x.damage(1, 0, bytes - 1, 255);
            x.damage(1, 0, bytes - 1, 255);
            CHECK.due("as it was", x.come(1), 94);
        }
        forged();
    }

    /** The tag is right, so only what it seals can be wrong. */
    private static void forged() {
        byte[][] keys = new Due().keys(0);
        byte[] payload = Arrays.copyOf(Hands.bytes(94, 5), 30);
        for (int p = 0; p < 33; p++) {
            forged(payload, keys, 4, 9 ^ p, p >= 4 && p <= 11);
        }
        for (int bit = 0; bit < 8; bit++) {
            forged(payload, keys, 3, 1 << bit, false);
            forged(payload, keys, 0, 1 << bit, false);
            forged(payload, keys, 34, 1 << bit, true);
            forged(payload, keys, 35, 1 << bit, false);
            forged(payload, keys, 43, 1 << bit, false);
        }
        byte[] full = Hands.filled(200, 94);
        for (int p = 4; p <= 11; p++) {
            forged(full, keys, 4, 7 ^ p, p == 7);
        }
        // With keys one byte has six zeros behind it: eight bytes, so p may be 4, 5 or 6.
        for (int p = 0; p < 13; p++) {
            SealedWire x = sealedWith(Hands.bytes(94), keys, new int[][] {{4, 6 ^ p}, {5, p > 6 ? 94 : 0}});
            CHECK.due("p " + p + " of eight bytes", x.come(1), p >= 4 && p <= 6 ? 94 : -2);
        }
    }

    private static void forged(byte[] payload, byte[][] keys, int at, int by, boolean whole) {
        SealedWire x = sealedWith(payload, keys, new int[][] {{at, by}});
        if (whole) {
            CHECK.due("byte " + at + " XOR " + by, x.come(1), 94);
        } else {
            isBroken("byte " + at + " XOR " + by, x, 1);
        }
    }

    /** A packet with keys that is changed before it is sealed. */
    private static SealedWire sealedWith(byte[] payload, byte[][] keys, int[][] changes) {
        SealedWire x = Hands.sealed();
        Hands.send(x, 0, payload);
        byte[] right = Model.sealedPacket(payload, keys, 3);
        byte[] hidden = Arrays.copyOf(right, right.length - 16);
        for (int[] change : changes) {
            hidden[change[0]] ^= (byte) change[1];
        }
        byte[] forged = Model.join(hidden, Model.tagOf(Arrays.copyOf(Model.streamOf(keys[1], 3, 0), 32), hidden));
        for (int i = 0; i < right.length; i++) {
            if (right[i] != forged[i]) {
                x.damage(1, 0, i, (right[i] ^ forged[i]) & 255);
            }
        }
        return x;
    }

    /** Makes the first packet to the server this row, which has as many bytes. */
    private static void replace(SealedWire x, byte[] row) {
        CHECK.due("as many bytes", x.packet(1, 0, -1), row.length);
        for (int i = 0; i < row.length; i++) {
            put(x, i, row[i] & 255);
        }
    }

    private static void brokenByKeys() {
        CHECK.of("for the end to which it comes, with its keys");
        byte[] payload = Hands.counted(9, 94);
        SealedWire right = Hands.sealed();
        Hands.send(right, 0, payload);
        replace(right, Model.sealedPacket(payload, new Due().keys(0), 3));
        CHECK.due("with its keys", right.come(1), 94);
        SealedWire other = Hands.sealed();
        Hands.send(other, 0, payload);
        replace(other, Model.sealedPacket(payload, new Due().keys(1), 3));
        isBroken("with the keys of what it sends", other, 1);
        SealedWire none = Hands.sealed();
        Hands.send(none, 0, payload);
        // No packet without keys has 36 bytes, so the nearest is made so long.
        replace(none, Model.join(Model.big(32, 4), Hands.bytes(4), Hands.filled(27, 94), new byte[4]));
        isBroken("without keys", none, 1);
        SealedWire early = new SealedWire();
        Hands.send(early, 0, Hands.filled(23, 94));
        byte[] sealed = Model.sealedPacket(Hands.filled(3, 94), new Due().keys(0), 0);
        replace(early, Arrays.copyOf(sealed, early.packet(1, 0, -1)));
        isBroken("with keys, when it has none", early, 1);
    }

    private static void brokenBySequenceNumber() {
        CHECK.of("for the end to which it comes, with its keys and its sequence number");
        byte[] payload = Hands.counted(9, 94);
        for (int number = 0; number < 8; number++) {
            SealedWire x = Hands.sealed();
            Hands.send(x, 0, payload);
            replace(x, Model.sealedPacket(payload, new Due().keys(0), number));
            if (number == 3) {
                CHECK.due("its own number", x.come(1), 94);
            } else {
                isBroken("number " + number, x, 1);
            }
        }
        SealedWire twice = Hands.sealed();
        Hands.send(twice, 0, payload);
        byte[] first = Hands.hex(Hands.packet(twice, 1, 0));
        CHECK.due("once", twice.come(1), 94);
        Hands.send(twice, 0, payload);
        replace(twice, first);
        isBroken("the same packet twice", twice, 1);
        SealedWire plain = new SealedWire();
        Hands.send(plain, 0, payload);
        Hands.send(plain, 0, payload);
        CHECK.due("without keys a packet may come twice", plain.come(1) + plain.come(1), 188);
    }
}
