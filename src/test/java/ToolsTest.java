import java.math.BigInteger;
import java.util.Random;

/** Promises 1 to 8: a new object, the tape, and what comes out of it. */
final class ToolsTest {
    private static final Check CHECK = new Check();

    public static void main(String[] args) {
        aNewObject();
        type();
        set();
        multiplyKnown();
        multiplyEdges();
        multiplyDrawn();
        multiplyToEdges();
        hash();
        stream();
        tag();
        takingEmptiesTheTape();
        out();
        CHECK.close();
    }

    private static void aNewObject() {
        SealedWire x = new SealedWire();
        for (int end = 0; end < 2; end++) {
            CHECK.due("about a new end", Hands.about(x, end), "1 0 0 0 0 0 0 0 -1");
            int at = end;
            CHECK.refuses("session of a new end", IllegalStateException.class, () -> x.session(at, 0));
            CHECK.refuses("got of a new end", IndexOutOfBoundsException.class, () -> x.got(at, 0));
            CHECK.refuses("packet to a new end", java.util.NoSuchElementException.class, () -> x.packet(at, 0, -1));
            CHECK.due("come to a new end", x.come(end), -1);
        }
        CHECK.refuses("out of a new object", IndexOutOfBoundsException.class, () -> x.out(0));
        CHECK.due("run of a new object", x.run(50), 0);
        x.hash();
        CHECK.due("hash of a new tape", Hands.out(x, 32), Hands.hex(Model.digest()));
        x.begin(1);
        CHECK.due("a cookie of zeros", Hands.packet(x, 0, 0), "000000140a14" + "00".repeat(18));
        x.run(2);
        CHECK.due("a secret of zeros", x.packet(1, 0, 6), Model.publicRow(new byte[32])[0] & 255);
        x.run(1);
        CHECK.due("a host's secret of zeros", x.packet(0, 0, 6), Model.publicRow(new byte[32])[0] & 255);
        x.run(1);
        CHECK.due("zeros are no host's row: the client ends", x.about(0, 0), 0);
    }

    private static void type() {
        SealedWire x = new SealedWire();
        for (int n : new int[] {0, 9, -1, 17, Integer.MIN_VALUE, Integer.MAX_VALUE}) {
            CHECK.isTrue("type of " + n + " bytes is false", !x.type(-1, n));
        }
        CHECK.isTrue("type of 3", x.type(0x99030201L, 3));
        CHECK.isTrue("type of 8", x.type(0xfffefdfcfbfaf9f8L, 8));
        x.hash();
        CHECK.due("bytes come lowest first", Hands.out(x, 32),
                Hands.hex(Model.digest(Hands.hex("010203f8f9fafbfcfdfeff"))));
        for (int i = 0; i < 74; i++) {
            CHECK.isTrue("type up to 592", x.type(7, 8));
        }
        CHECK.isTrue("type up to 599", x.type(0, 7));
        CHECK.isTrue("601 are too many", !x.type(5, 2));
        CHECK.isTrue("600 are not", x.type(5, 1));
        CHECK.isTrue("the tape is full", !x.type(5, 1));
        x.hash();
        byte[] all = new byte[600];
        for (int i = 0; i < 592; i += 8) {
            all[i] = 7;
        }
        all[599] = 5;
        CHECK.due("a false type changes nothing", Hands.out(x, 32), Hands.hex(Model.digest(all)));
    }

    private static void set() {
        SealedWire x = new SealedWire();
        for (int what : new int[] {-1, 6, Integer.MIN_VALUE, Integer.MAX_VALUE}) {
            Hands.type(x, Hands.filled(32, 1));
            CHECK.refuses("set(" + what + ")", IndexOutOfBoundsException.class, () -> x.set(what));
            CHECK.refuses("set(" + what + ") of nothing", IndexOutOfBoundsException.class, () -> x.set(what));
        }
        for (int what = 0; what < 6; what++) {
            int at = what;
            for (int size : new int[] {0, 7, 8, 9, 31, 32, 33, 600}) {
                if (size != (what < 4 ? 32 : 8)) {
                    Hands.type(x, Hands.filled(size, 9));
                    CHECK.refuses("set(" + what + ") of " + size, IllegalArgumentException.class, () -> x.set(at));
                }
            }
        }
        x.begin(0);
        CHECK.due("a set that throws sets nothing", Hands.packet(x, 1, 0), "000000140a14" + "00".repeat(18));
        x.begin(1);
        Hands.set(x, 4, Hands.counted(8, 1));
        CHECK.due("what was sent stays", Hands.packet(x, 1, 0), "000000140a14" + "00".repeat(18));
    }

    private static void product(String name, String k, String u, String due) {
        SealedWire x = new SealedWire();
        Hands.type(x, Hands.hex(k), Hands.hex(u));
        x.multiply();
        CHECK.due("multiply " + name, Hands.out(x, 32), due);
        CHECK.refuses("only 32 bytes come out", IndexOutOfBoundsException.class, () -> x.out(32));
    }

    private static void multiplyKnown() {
        product("RFC 7748, 5.2, first", "a546e36bf0527c9d3b16154b82465edd62144c0ac1fc5a18506a2244ba449ac4",
                "e6db6867583030db3594c1a424b15f7c726624ec26b3353b10a903a6d0ab1c4c",
                "c3da55379de9c6908e94ea4df28d084f32eccf03491c71f754b4075577a28552");
        product("RFC 7748, 5.2, second", "4b66e9d4d1b4673c5ad22691957d6af5c11b6421e0ea01d42ca4169e7918ba0d",
                "e5210f12786811d3f4b7959d0538ae2c31dbe7106fc03c3efc4cd549c715a493",
                "95cbde9476e8907d7aade45cb4b873f88b595a68799fa152e6f8f7647aac7957");
        String nine = "09" + "00".repeat(31);
        SealedWire x = new SealedWire();
        Hands.type(x, Hands.hex(nine), Hands.hex(nine));
        x.multiply();
        CHECK.due("RFC 7748, 5.2, after one turn", Hands.out(x, 32),
                "422c8e7a6227d7bca1350b3e2bb7279f7897b87bb6854b783c60e80311ae3079");
        byte[] k = Hands.hex(nine);
        byte[] u = Hands.hex(nine);
        for (int i = 0; i < 1000; i++) {
            Hands.type(x, k, u);
            x.multiply();
            u = k;
            k = Hands.hex(Hands.out(x, 32));
        }
        CHECK.due("RFC 7748, 5.2, after 1000 turns", Hands.hex(k),
                "684cf59ba83309552800ef566f2f4d3c1c3887c49360e3875f2eb94d99532c51");
    }

    private static void multiplyEdges() {
        String p = "ed" + "ff".repeat(30) + "7f";
        String[] points = {
            "00".repeat(32), "01" + "00".repeat(31), "02" + "00".repeat(31),
            "ec" + "ff".repeat(30) + "7f", p, "ee" + "ff".repeat(30) + "7f", "ff".repeat(31) + "7f",
            "00".repeat(31) + "80", "09" + "00".repeat(30) + "80", "ed" + "ff".repeat(31), "ff".repeat(32),
            "ffffff03" + "00".repeat(28), "00000004" + "00".repeat(28), "00".repeat(29) + "fcff7f",
            "e0eb7a7c3b41b8ae1656e3faf19fc46ada098deb9c32b1fd866205165f49b800",
            "5f9c95bca3508c24b1d0b1559c83ef5b04445cc4581c8e86d8224eddd09f1157"
        };
        String[] factors = {"00".repeat(32), "ff".repeat(32), "07" + "00".repeat(30) + "80", "08" + "00".repeat(31)};
        for (String point : points) {
            for (String factor : factors) {
                product("edge " + factor + " " + point, factor, point,
                        Hands.hex(Model.product(Hands.hex(factor), Hands.hex(point))));
            }
        }
        product("P counts as 0", "11".repeat(32), p, "00".repeat(32));
        SealedWire x = new SealedWire();
        for (int size : new int[] {0, 1, 32, 63, 65, 600}) {
            Hands.type(x, Hands.filled(size, 3));
            CHECK.refuses("multiply of " + size, IllegalArgumentException.class, x::multiply);
        }
    }

    private static void multiplyDrawn() {
        Random random = new Random(5);
        for (int i = 0; i < 200; i++) {
            byte[] k = new byte[32];
            byte[] u = new byte[32];
            random.nextBytes(k);
            random.nextBytes(u);
            product("drawn", Hands.hex(k), Hands.hex(u), Hands.hex(Model.product(k, u)));
        }
    }

    /** Products that are just above 0 or below P: where a number may be P or more inside. */
    private static void multiplyToEdges() {
        BigInteger[] orders = {
            BigInteger.ONE.shiftLeft(252).add(new BigInteger("27742317777372353535851937790883648493")),
            BigInteger.ONE.shiftLeft(253).subtract(new BigInteger("55484635554744707071703875581767296995"))
        };
        byte[] k = Hands.counted(32, 17);
        int found = 0;
        for (int i = -60; i < 60; i++) {
            BigInteger due = BigInteger.valueOf(i).mod(Model.P);
            for (BigInteger order : orders) {
                BigInteger u = Model.ladder(Model.clamped(k).modInverse(order), due);
                if (Model.ladder(Model.clamped(k), u).equals(due)) {
                    product("to " + i, Hands.hex(k), Hands.hex(Model.little(u, 32)), Hands.hex(Model.little(due, 32)));
                    found++;
                }
            }
        }
        CHECK.isTrue("there are such products: " + found, found > 20);
    }

    private static void hash() {
        SealedWire x = new SealedWire();
        x.hash();
        CHECK.due("hash of nothing", Hands.out(x, 32),
                "e3b0c44298fc1c149afbf4c8996fb92427ae41e4649b934ca495991b7852b855");
        Hands.type(x, Hands.bytes('a', 'b', 'c'));
        x.hash();
        CHECK.due("hash of abc", Hands.out(x, 32),
                "ba7816bf8f01cfea414140de5dae2223b00361a396177a9cb410ff61f20015ad");
        for (int size = 0; size <= 600; size++) {
            byte[] row = Hands.counted(size, 7 * size);
            Hands.type(x, row);
            x.hash();
            CHECK.due("hash of " + size, Hands.out(x, 32), Hands.hex(Model.digest(row)));
        }
        CHECK.refuses("32 bytes come out", IndexOutOfBoundsException.class, () -> x.out(32));
    }

    private static void stream() {
        SealedWire x = new SealedWire();
        Hands.type(x, Hands.counted(32, 0));
        x.stream(0x4a00000000L, 1);
        CHECK.due("RFC 8439, 2.4.2, first block", Hands.out(x, 64),
                "224f51f3401bd9e12fde276fb8631ded8c131f823d2c06e27e4fcaec9ef3cf78"
                + "8a3b0aa372600a92b57974cded2b9334794cba40c63e34cdea212c4cf07d41b7");
        CHECK.refuses("64 bytes come out", IndexOutOfBoundsException.class, () -> x.out(64));
        long[] nonces = {0, 1, 255, 256, 0x80000000L, 0xffffffffL, 0x100000000L, 0x0123456789abcdefL, Long.MAX_VALUE};
        int[] counters = {0, 1, 2, 255, 65536, 0x12345678, Integer.MAX_VALUE};
        for (long nonce : nonces) {
            for (int counter : counters) {
                byte[] key = Hands.counted(32, counter + (int) nonce);
                Hands.type(x, key);
                x.stream(nonce, counter);
                CHECK.due("stream(" + nonce + ", " + counter + ")", Hands.out(x, 64),
                        Hands.hex(Model.streamOf(key, nonce, counter)));
            }
        }
        for (int size : new int[] {0, 31, 33, 64}) {
            Hands.type(x, Hands.filled(size, 3));
            CHECK.refuses("stream of " + size, IllegalArgumentException.class, () -> x.stream(0, 0));
        }
        Hands.type(x, Hands.filled(32, 3));
        CHECK.refuses("nonce -1", IllegalArgumentException.class, () -> x.stream(-1, 0));
        Hands.type(x, Hands.filled(32, 3));
        CHECK.refuses("the least nonce", IllegalArgumentException.class, () -> x.stream(Long.MIN_VALUE, 0));
        Hands.type(x, Hands.filled(32, 3));
        CHECK.refuses("counter -1", IllegalArgumentException.class, () -> x.stream(0, -1));
    }

    private static void tagged(byte[] key, byte[] row) {
        SealedWire x = new SealedWire();
        Hands.type(x, key, row);
        x.tag();
        CHECK.due("tag of " + Hands.hex(row) + " by " + Hands.hex(key), Hands.out(x, 16),
                Hands.hex(Model.tagOf(key, row)));
    }

    private static void tag() {
        SealedWire x = new SealedWire();
        Hands.type(x, Hands.hex("85d6be7857556d337f4452fe42d506a80103808afb0db2fd4abff6af4149f51b"),
                "Cryptographic Forum Research Group".getBytes(java.nio.charset.StandardCharsets.US_ASCII));
        x.tag();
        CHECK.due("RFC 8439, 2.5.2", Hands.out(x, 16), "a8061dc1305136c6c22b8baf0c0127a9");
        CHECK.refuses("16 bytes come out", IndexOutOfBoundsException.class, () -> x.out(16));
        for (int size : new int[] {0, 1, 31}) {
            Hands.type(x, Hands.filled(size, 3));
            CHECK.refuses("tag of " + size, IllegalArgumentException.class, x::tag);
        }
        for (int size = 0; size <= 568; size++) {
            tagged(Hands.counted(32, 3 * size + 1), Hands.counted(size, 5 * size));
        }
        for (int r = 0; r < 6; r++) {
            for (int last = 0xf0; last < 0x100; last++) {
                byte[] key = Model.join(Hands.bytes(r), new byte[15], Hands.filled(16, r % 2 == 0 ? 0 : 255));
                byte[] ones = Hands.filled(16, 255);
                ones[0] = (byte) last;
                tagged(key, ones);
                tagged(key, Model.join(ones, ones));
                tagged(key, Model.join(Hands.filled(16, 255), ones, Hands.filled(7, 255)));
            }
        }
        Random random = new Random(6);
        for (int i = 0; i < 500; i++) {
            byte[] key = new byte[32];
            byte[] row = Hands.filled(random.nextInt(100), 255);
            random.nextBytes(key);
            tagged(i % 2 == 0 ? key : Hands.filled(32, 255), row);
        }
    }

    private static void takingEmptiesTheTape() {
        byte[] nothing = Model.digest();
        SealedWire x = new SealedWire();
        Check.Call[] takers = {
            () -> x.set(9), () -> x.set(0), () -> x.multiply(), () -> x.hash(), () -> x.stream(0, 0), () -> x.tag(),
            () -> x.send(7), () -> x.send(1)
        };
        for (int i = 0; i < takers.length; i++) {
            Hands.type(x, Hands.filled(i == 7 ? 201 : 5, 20));
            try {
                takers[i].run();
            } catch (RuntimeException e) {
                CHECK.isTrue("taker " + i + " may throw", i != 3);
            }
            x.hash();
            CHECK.due("the tape after taker " + i, Hands.out(x, 32), Hands.hex(nothing));
        }
    }

    private static void out() {
        SealedWire x = new SealedWire();
        Hands.type(x, Hands.filled(32, 200));
        x.stream(3, 4);
        String before = Hands.out(x, 64);
        CHECK.refuses("multiply of nothing", IllegalArgumentException.class, x::multiply);
        CHECK.refuses("tag of nothing", IllegalArgumentException.class, x::tag);
        CHECK.refuses("stream of nothing", IllegalArgumentException.class, () -> x.stream(0, 0));
        CHECK.due("a call that throws leaves what came out", Hands.out(x, 64), before);
        Hands.send(x, 0, Hands.bytes(94, 1, 2));
        x.begin(0);
        x.run(50);
        CHECK.due("packets leave what came out", Hands.out(x, 64), before);
        for (int i : new int[] {-1, 64, Integer.MIN_VALUE, Integer.MAX_VALUE}) {
            CHECK.refuses("out(" + i + ")", IndexOutOfBoundsException.class, () -> x.out(i));
        }
        Hands.type(x, Hands.filled(32, 200));
        x.tag();
        CHECK.refuses("a shorter row leaves nothing behind", IndexOutOfBoundsException.class, () -> x.out(16));
    }
}
