import java.math.BigInteger;
import java.util.Arrays;

/** Edges that "Terms" names for the tape, the curve, the hash, the stream and the tag, sentence by sentence. */
final class ToolEdgesTest {
    private static final Check CHECK = new Check();

    public static void main(String[] args) {
        bytes();
        tapeOf600();
        takingEmpties();
        upperBitOfThePoint();
        pointModuloP();
        bitsOfTheFactor();
        productModuloP();
        noInverseOfZero();
        publicRows();
        zerosOfTheHash();
        bitsOfTheHash();
        nonces();
        counters();
        lastBytesOfTheTag();
        bitsOfTheTagKey();
        tagModulo();
        tagWrapsAround();
        CHECK.close();
    }

    private static byte[] number(BigInteger value) {
        return Model.little(value, 32);
    }

    private static BigInteger power(int exponent) {
        return BigInteger.ONE.shiftLeft(exponent);
    }

    private static byte[] flipped(byte[] row, int bit) {
        byte[] other = row.clone();
        other[bit >> 3] ^= (byte) (1 << (bit & 7));
        return other;
    }

    private static String product(byte[] k, byte[] u) {
        SealedWire x = new SealedWire();
        Hands.type(x, k, u);
        x.multiply();
        return Hands.out(x, 32);
    }

    private static String hash(byte[] row) {
        SealedWire x = new SealedWire();
        Hands.type(x, row);
        x.hash();
        return Hands.out(x, 32);
    }

    private static String stream(byte[] key, long nonce, int counter) {
        SealedWire x = new SealedWire();
        Hands.type(x, key);
        x.stream(nonce, counter);
        return Hands.out(x, 64);
    }

    private static String tag(byte[] key, byte[] row) {
        SealedWire x = new SealedWire();
        Hands.type(x, key, row);
        x.tag();
        return Hands.out(x, 16);
    }

    private static void bytes() {
        CHECK.of("BYTES in rows are numbers 0 .. 255");
        SealedWire x = new SealedWire();
        x.type(0xff5eL, 2);
        x.type(0, 1);
        x.type(-1, 8);
        x.type(0x8000000000000080L, 8);
        x.send(0);
        int[] due = {255, 0, 255, 255, 255, 255, 255, 255, 255, 255, 128, 0, 0, 0, 0, 0, 0, 128};
        for (int i = 0; i < due.length; i++) {
            CHECK.due("byte " + i + " on the wire", x.packet(1, 0, 6 + i), due[i]);
        }
        x.come(1);
        for (int i = 0; i < due.length; i++) {
            CHECK.due("byte " + i + " got", x.got(1, i), due[i]);
        }
        x.hash();
        for (int i = 0; i < 32; i++) {
            CHECK.due("byte " + i + " that came out", x.out(i), Model.digest()[i] & 255);
        }
    }

    private static void tapeOf600() {
        CHECK.of("THE TAPE is a row of at most 600");
        for (int n = 1; n <= 8; n++) {
            SealedWire x = new SealedWire();
            Hands.type(x, Hands.filled(600 - n, 1));
            CHECK.isTrue(n + " more make 600", x.type(-1, n));
            CHECK.isTrue("none has room", !x.type(2, 1));
            x.hash();
            CHECK.due("600", Hands.out(x, 32),
                    Hands.hex(Model.digest(Hands.filled(600 - n, 1), Hands.filled(n, 255))));
            Hands.type(x, Hands.filled(601 - n, 1));
            CHECK.isTrue(n + " more make 601", !x.type(-1, n));
            x.hash();
            CHECK.due("none of the " + n + " came", Hands.out(x, 32),
                    Hands.hex(Model.digest(Hands.filled(601 - n, 1))));
        }
    }

    private static void takingEmpties() {
        CHECK.of("a call that takes it empties it");
        int[] sizes = {32, 8, 64, 0, 600, 32, 32, 600, 1, 200};
        for (int call = 0; call < sizes.length; call++) {
            SealedWire x = new SealedWire();
            Hands.type(x, Hands.filled(sizes[call], 94));
            switch (call) {
                case 0 -> x.set(0);
                case 1 -> x.set(5);
                case 2 -> x.multiply();
                case 3, 4 -> x.hash();
                case 5 -> x.stream(0, 0);
                case 6, 7 -> x.tag();
                default -> x.send(0);
            }
            Hands.type(x, Hands.filled(600, 3));
            CHECK.isTrue("600 have room again", !x.type(3, 1));
            x.hash();
            CHECK.due("nothing is left after call " + call, Hands.out(x, 32),
                    Hands.hex(Model.digest(Hands.filled(600, 3))));
        }
    }

    private static void upperBitOfThePoint() {
        CHECK.of("u is a little number without its highest bit");
        byte[] k = Hands.counted(32, 3);
        for (int first = 0; first < 8; first++) {
            byte[] u = Hands.counted(32, 31 * first);
            CHECK.due("bit 255", product(k, flipped(u, 255)), product(k, u));
            CHECK.isTrue("bit 254 counts", !product(k, flipped(u, 254)).equals(product(k, u)));
            CHECK.isTrue("bit 0 counts", !product(k, flipped(u, 0)).equals(product(k, u)));
        }
    }

    private static void pointModuloP() {
        CHECK.of("u is a little number without its highest bit, modulo P");
        byte[] k = Hands.counted(32, 90);
        for (int above = 0; above < 19; above++) {
            byte[] small = number(BigInteger.valueOf(above));
            byte[] large = number(Model.P.add(BigInteger.valueOf(above)));
            String due = Hands.hex(Model.product(k, small));
            CHECK.due(above + "", product(k, small), due);
            CHECK.due("P + " + above, product(k, large), due);
            CHECK.due("P + " + above + " with its highest bit", product(k, flipped(large, 255)), due);
        }
        for (int below = 1; below < 40; below++) {
            byte[] u = number(Model.P.subtract(BigInteger.valueOf(below)));
            CHECK.due("P - " + below, product(k, u), Hands.hex(Model.product(k, u)));
        }
    }

    private static void bitsOfTheFactor() {
        CHECK.of("k is a little number in which the bits 0, 1, 2 and 255 are made 0 and bit 254 is made 1");
        byte[] u = Hands.counted(32, 140);
        for (byte[] k : new byte[][] {Hands.counted(32, 5), new byte[32], Hands.filled(32, 255)}) {
            String due = product(k, u);
            for (int bit : new int[] {0, 1, 2, 254, 255}) {
                CHECK.due("bit " + bit, product(flipped(k, bit), u), due);
            }
            for (int bit : new int[] {3, 4, 7, 8, 127, 128, 252, 253}) {
                CHECK.isTrue("bit " + bit + " counts", !product(flipped(k, bit), u).equals(due));
            }
        }
    }

    /** Points are sought whose product with k is a small number, or P less one. */
    private static void productModuloP() {
        CHECK.of("The result is x2 * z2^(P - 2), modulo P, as a little number of 32 bytes");
        BigInteger curve = power(252).add(new BigInteger("27742317777372353535851937790883648493"));
        BigInteger twist = power(253).subtract(new BigInteger("55484635554744707071703875581767296995"));
        byte[] k = Hands.counted(32, 40);
        int found = 0;
        for (int i = -20; i <= 20; i++) {
            BigInteger due = BigInteger.valueOf(i).mod(Model.P);
            for (BigInteger order : new BigInteger[] {curve, twist}) {
                BigInteger u = Model.ladder(Model.clamped(k).modInverse(order), due);
                if (Model.ladder(Model.clamped(k), u).equals(due)) {
                    CHECK.due("the product " + i, product(k, number(u)), Hands.hex(number(due)));
                    found++;
                }
            }
        }
        CHECK.isTrue("there are products at both sides of P: " + found, found > 8);
    }

    private static void noInverseOfZero() {
        CHECK.of("x2 * z2^(P - 2), z2 being 0");
        BigInteger[] points = {
            BigInteger.ZERO, BigInteger.ONE, Model.P.subtract(BigInteger.ONE), Model.P, Model.P.add(BigInteger.ONE),
            Model.little(Hands.hex("e0eb7a7c3b41b8ae1656e3faf19fc46ada098deb9c32b1fd866205165f49b800")),
            Model.little(Hands.hex("5f9c95bca3508c24b1d0b1559c83ef5b04445cc4581c8e86d8224eddd09f1157"))
        };
        for (BigInteger point : points) {
            for (int first = 0; first < 3; first++) {
                CHECK.due("a point without a product", product(Hands.counted(32, 70 * first), number(point)),
                        "00".repeat(32));
            }
        }
    }

    private static void publicRows() {
        CHECK.of("A secret's PUBLIC row is MULTIPLY(secret, 9)");
        for (byte[] secret : new byte[][] {new byte[32], Hands.filled(32, 255), Hands.counted(32, 11)}) {
            byte[] nine = number(BigInteger.valueOf(9));
            String due = Hands.hex(Model.publicRow(secret));
            CHECK.due("the public row", product(secret, nine), due);
            CHECK.due("9 with its highest bit", product(secret, flipped(nine, 255)), due);
            SealedWire x = new SealedWire();
            Hands.set(x, 0, secret);
            x.begin(1);
            x.come(0);
            for (int i = 0; i < 32; i++) {
                CHECK.due("in REQUEST", x.packet(1, 1, 6 + i), Integer.parseInt(due.substring(2 * i, 2 * i + 2), 16));
            }
        }
    }

    private static void zerosOfTheHash() {
        CHECK.of("all are a multiple of 64 bytes with as few zeros as can be");
        for (int blocks = 1; blocks <= 9; blocks++) {
            for (int beside = -10; beside <= 1; beside++) {
                byte[] row = Hands.filled(64 * blocks + beside, 200);
                CHECK.due("hash of " + row.length, hash(row), Hands.hex(Model.digest(row)));
            }
        }
        byte[] most = Hands.counted(600, 1);
        CHECK.due("hash of 600", hash(most), Hands.hex(Model.digest(most)));
        CHECK.due("hash of nothing", hash(new byte[0]),
                "e3b0c44298fc1c149afbf4c8996fb92427ae41e4649b934ca495991b7852b855");
        CHECK.isTrue("128 behind a row is not what comes behind it",
                !hash(Hands.bytes(1)).equals(hash(Hands.bytes(1, 128))));
    }

    private static void bitsOfTheHash() {
        CHECK.of("how many bits it has as a big number of 8 bytes");
        // 31 bytes have 248 bits, 32 have 256: so do 8191 and 8192, which no tape holds.
        for (int size : new int[] {0, 1, 31, 32, 33, 511, 512, 513, 600}) {
            byte[] zeros = new byte[size];
            CHECK.due("hash of zeros", hash(zeros), Hands.hex(Model.digest(zeros)));
        }
    }

    private static void nonces() {
        CHECK.of("a nonce (a number n >= 0) ... the two little words of the 8 bytes that n is as a big number");
        byte[] key = Hands.counted(32, 99);
        for (int bit = 0; bit < 63; bit++) {
            for (long nonce : new long[] {1L << bit, (1L << bit) - 1}) {
                CHECK.due("nonce " + nonce, stream(key, nonce, 1), Hands.hex(Model.streamOf(key, nonce, 1)));
            }
        }
        CHECK.due("the largest", stream(key, Long.MAX_VALUE, 1), Hands.hex(Model.streamOf(key, Long.MAX_VALUE, 1)));
        SealedWire x = new SealedWire();
        Hands.type(x, key);
        CHECK.refuses("nonce -1", IllegalArgumentException.class, () -> x.stream(-1, 1));
    }

    private static void counters() {
        CHECK.of("THE STREAM of a key (32 bytes), a nonce (a number n >= 0) and a counter");
        for (byte[] key : new byte[][] {new byte[32], Hands.filled(32, 255)}) {
            for (int bit = 0; bit < 31; bit++) {
                CHECK.due("counter " + (1 << bit), stream(key, 7, 1 << bit),
                        Hands.hex(Model.streamOf(key, 7, 1 << bit)));
            }
            CHECK.due("counter 0", stream(key, 0, 0), Hands.hex(Model.streamOf(key, 0, 0)));
            CHECK.due("the largest", stream(key, 7, Integer.MAX_VALUE),
                    Hands.hex(Model.streamOf(key, 7, Integer.MAX_VALUE)));
        }
    }

    private static void lastBytesOfTheTag() {
        CHECK.of("for each 16 bytes (the last ones may be less)");
        byte[] key = Hands.counted(32, 201);
        CHECK.due("of nothing it is s", tag(key, new byte[0]), Hands.hex(Arrays.copyOfRange(key, 16, 32)));
        for (int size : new int[] {1, 2, 14, 15, 16, 17, 18, 31, 32, 33, 47, 48, 49, 551, 552, 559, 560, 561, 567, 568}) {
            for (byte[] row : new byte[][] {new byte[size], Hands.filled(size, 255), Hands.counted(size, 3)}) {
                CHECK.due("tag of " + size, tag(key, row), Hands.hex(Model.tagOf(key, row)));
            }
        }
        CHECK.isTrue("15 bytes are not 16 with a zero", !tag(key, new byte[15]).equals(tag(key, new byte[16])));
    }

    private static void bitsOfTheTagKey() {
        CHECK.of("the upper four bits of bytes 3, 7, 11, 15 and the lower two of bytes 4, 8, 12 are made 0");
        byte[] row = Hands.counted(40, 60);
        for (byte[] key : new byte[][] {new byte[32], Hands.filled(32, 255), Hands.counted(32, 17)}) {
            String due = tag(key, row);
            CHECK.due("tag", due, Hands.hex(Model.tagOf(key, row)));
            for (int bit = 0; bit < 128; bit++) {
                int at = bit >> 3;
                boolean upper = at % 4 == 3 && (bit & 7) >= 4;
                boolean lower = at > 0 && at % 4 == 0 && (bit & 7) < 2;
                boolean same = tag(flipped(key, bit), row).equals(due);
                CHECK.isTrue("bit " + bit + (same ? " does not count" : " counts"), same == (upper || lower));
            }
            for (int bit = 128; bit < 256; bit++) {
                CHECK.isTrue("bit " + bit + " of s counts", !tag(flipped(key, bit), row).equals(due));
            }
        }
    }

    /** With r = 1 q is a sum, with r = 4 a multiple of it, so it can be brought beside the modulus. */
    private static void tagModulo() {
        CHECK.of("q = (q + ...) * r modulo 2^130 - 5");
        BigInteger modulus = power(130).subtract(BigInteger.valueOf(5));
        byte[] full = Hands.filled(16, 255);
        for (int r : new int[] {1, 2, 4, 8}) {
            byte[] key = new byte[32];
            key[0] = (byte) r;
            for (int beside = -8; beside <= 8; beside++) {
                // One number of 17 bytes is 2^128 .. 2^129 - 1; two are enough to reach the modulus by r = 2 or 4.
                BigInteger sum = modulus.add(BigInteger.valueOf(beside));
                BigInteger piece = sum.divide(BigInteger.valueOf(r)).subtract(power(128));
                if (piece.signum() < 0 || piece.bitLength() > 128) {
                    continue;
                }
                byte[] row = Model.little(piece, 16);
                CHECK.due("beside the modulus by " + beside, tag(key, row), Hands.hex(Model.tagOf(key, row)));
            }
            for (int last = 240; last < 256; last++) {
                byte[] row = full.clone();
                row[0] = (byte) last;
                byte[] rows = Model.join(full, row, full, row);
                CHECK.due("four of them", tag(key, rows), Hands.hex(Model.tagOf(key, rows)));
            }
        }
        byte[] one = new byte[32];
        one[0] = 1;
        byte[] low = Model.little(power(128).subtract(BigInteger.valueOf(6)), 16);
        // 3 * 2^128 and these have 2^130 - 6, - 5 and - 4: below the modulus, the modulus, above it.
        CHECK.due("2^130 - 6", tag(one, Model.join(new byte[32], low)), "fa" + "ff".repeat(15));
        CHECK.due("2^130 - 5", tag(one, Model.join(new byte[32], plus(low, 1))), "00".repeat(16));
        CHECK.due("2^130 - 4", tag(one, Model.join(new byte[32], plus(low, 2))), "01" + "00".repeat(15));
    }

    private static byte[] plus(byte[] row, int more) {
        return Model.little(Model.little(row).add(BigInteger.valueOf(more)), row.length);
    }

    private static void tagWrapsAround() {
        CHECK.of("The tag is q + s modulo 2^128");
        byte[] one = new byte[32];
        one[0] = 1;
        byte[] largest = Model.join(Hands.bytes(1), new byte[15], Hands.filled(16, 255));
        CHECK.due("2^128 + 0", tag(one, new byte[16]), "00".repeat(16));
        CHECK.due("2^128 + 1 + 2^128 - 1", tag(largest, Model.little(BigInteger.ONE, 16)), "00".repeat(16));
        CHECK.due("2^128 + 2^128 - 1", tag(largest, new byte[16]), "ff".repeat(16));
        CHECK.due("2^129 - 1 + 2^128 - 1", tag(largest, Hands.filled(16, 255)), "fe" + "ff".repeat(15));
    }
}
