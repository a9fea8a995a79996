import java.io.ByteArrayOutputStream;
import java.math.BigInteger;
import java.security.GeneralSecurityException;
import java.security.MessageDigest;
import java.util.ArrayList;
import java.util.Arrays;
import java.util.HashMap;
import java.util.List;
import java.util.Map;
import java.util.NoSuchElementException;
import javax.crypto.Cipher;
import javax.crypto.spec.ChaCha20ParameterSpec;
import javax.crypto.spec.SecretKeySpec;

/**
 * The document once more, written for clearness alone: numbers are BigIntegers, hash and stream are
 * those of the Java library, a packet is whole if its payload makes just this packet again.
 */
public final class Model {
    static final BigInteger P = BigInteger.ONE.shiftLeft(255).subtract(BigInteger.valueOf(19));
    private static final BigInteger TAG_P = BigInteger.ONE.shiftLeft(130).subtract(BigInteger.valueOf(5));
    private static final Map<String, byte[]> PRODUCTS = new HashMap<>();

    private static final class Side {
        final List<byte[]> to = new ArrayList<>();
        boolean alive = true;
        int sent;
        int came;
        int over;
        int unknown = -1;
        byte[] secret = new byte[32];
        byte[] cookie = new byte[8];
        byte[] got = new byte[0];
        byte[] session;
        byte[][] sendKeys;
        byte[][] comeKeys;
        byte[][] nextComeKeys;
        byte[] takenSecret;
        byte[] initSent;
        byte[] initGot;
        boolean asked;
        boolean replied;
        boolean newSent;
    }

    private final Side[] sides = {new Side(), new Side()};
    private byte[] host = new byte[32];
    private byte[] trust = new byte[32];
    private byte[] tape = new byte[0];
    private byte[] last = new byte[0];

    static byte[] join(byte[]... rows) {
        ByteArrayOutputStream all = new ByteArrayOutputStream();
        for (byte[] row : rows) {
            all.writeBytes(row);
        }
        return all.toByteArray();
    }

    private static byte[] one(int b) {
        return new byte[] {(byte) b};
    }

    static BigInteger little(byte[] row) {
        byte[] big = new byte[row.length];
        for (int i = 0; i < row.length; i++) {
            big[i] = row[row.length - 1 - i];
        }
        return new BigInteger(1, big);
    }

    static byte[] little(BigInteger number, int size) {
        byte[] row = new byte[size];
        for (int i = 0; i < size; i++) {
            row[i] = number.shiftRight(8 * i).byteValue();
        }
        return row;
    }

    static byte[] product(byte[] k, byte[] u) {
        return PRODUCTS.computeIfAbsent(Arrays.toString(k) + Arrays.toString(u), name -> ladder(k, u)).clone();
    }

    private static byte[] ladder(byte[] kRow, byte[] uRow) {
        return little(ladder(clamped(kRow), little(uRow).clearBit(255).mod(P)), 32);
    }

    static BigInteger clamped(byte[] kRow) {
        return little(kRow).clearBit(0).clearBit(1).clearBit(2).clearBit(255).setBit(254);
    }

    static BigInteger ladder(BigInteger k, BigInteger u) {
        BigInteger x2 = BigInteger.ONE;
        BigInteger z2 = BigInteger.ZERO;
        BigInteger x3 = u;
        BigInteger z3 = BigInteger.ONE;
        for (int bit = 254; bit >= 0; bit--) {
            if (k.testBit(bit)) {
                BigInteger x = x2;
                x2 = x3;
                x3 = x;
                BigInteger z = z2;
                z2 = z3;
                z3 = z;
            }
            BigInteger a = x2.add(z2);
            BigInteger b = x2.subtract(z2);
            BigInteger c = x3.add(z3);
            BigInteger d = x3.subtract(z3);
            BigInteger aa = a.multiply(a).mod(P);
            BigInteger bb = b.multiply(b).mod(P);
            BigInteger e = aa.subtract(bb);
            BigInteger da = d.multiply(a).mod(P);
            BigInteger cb = c.multiply(b).mod(P);
            x3 = da.add(cb).pow(2).mod(P);
            z3 = u.multiply(da.subtract(cb).pow(2)).mod(P);
            x2 = aa.multiply(bb).mod(P);
            z2 = e.multiply(aa.add(e.multiply(BigInteger.valueOf(121665)))).mod(P);
            if (k.testBit(bit)) {
                BigInteger x = x2;
                x2 = x3;
                x3 = x;
                BigInteger z = z2;
                z2 = z3;
                z3 = z;
            }
        }
        return x2.multiply(z2.modPow(P.subtract(BigInteger.TWO), P)).mod(P);
    }

    static byte[] publicRow(byte[] secret) {
        byte[] nine = new byte[32];
        nine[0] = 9;
        return product(secret, nine);
    }

    static byte[] digest(byte[]... rows) {
        try {
            return MessageDigest.getInstance("SHA-256").digest(join(rows));
        } catch (GeneralSecurityException e) {
            throw new AssertionError(e);
        }
    }

    static byte[] big(long number, int size) {
        byte[] row = new byte[size];
        for (int i = 0; i < size; i++) {
            row[i] = (byte) (number >>> (8 * (size - 1 - i)));
        }
        return row;
    }

    static byte[] streamOf(byte[] key, long nonce, int counter) {
        try {
            Cipher cipher = Cipher.getInstance("ChaCha20");
            cipher.init(Cipher.ENCRYPT_MODE, new SecretKeySpec(key, "ChaCha20"),
                    new ChaCha20ParameterSpec(join(new byte[4], big(nonce, 8)), counter));
            return cipher.doFinal(new byte[64]);
        } catch (GeneralSecurityException e) {
            throw new AssertionError(e);
        }
    }

    static byte[] tagOf(byte[] key, byte[] row) {
        byte[] first = Arrays.copyOf(key, 16);
        for (int i : new int[] {3, 7, 11, 15}) {
            first[i] &= 15;
        }
        for (int i : new int[] {4, 8, 12}) {
            first[i] &= (byte) 252;
        }
        BigInteger r = little(first);
        BigInteger q = BigInteger.ZERO;
        for (int at = 0; at < row.length; at += 16) {
            byte[] piece = Arrays.copyOfRange(row, at, Math.min(row.length, at + 16));
            q = q.add(little(join(piece, one(1)))).multiply(r).mod(TAG_P);
        }
        return little(q.add(little(Arrays.copyOfRange(key, 16, 32))), 16);
    }

    static byte[] sealedPacket(byte[] payload, byte[][] keys, int sequence) {
        int p = 4;
        while ((1 + payload.length + p + (keys == null ? 4 : 0)) % 8 != 0) {
            p++;
        }
        byte[] head = big(1 + payload.length + p, 4);
        byte[] body = join(one(p), payload, new byte[p]);
        if (keys == null) {
            return join(head, body);
        }
        byte[] headStream = streamOf(keys[0], sequence, 0);
        for (int i = 0; i < 4; i++) {
            head[i] ^= headStream[i];
        }
        byte[] bodyStream = new byte[0];
        for (int counter = 1; bodyStream.length < body.length; counter++) {
            bodyStream = join(bodyStream, streamOf(keys[1], sequence, counter));
        }
        for (int i = 0; i < body.length; i++) {
            body[i] ^= bodyStream[i];
        }
        byte[] hidden = join(head, body);
        return join(hidden, tagOf(Arrays.copyOf(streamOf(keys[1], sequence, 0), 32), hidden));
    }

    /** null, when the packet is broken. */
    static byte[] payloadOf(byte[] packet, byte[][] keys, int sequence) {
        int least = keys == null ? 5 : 21;
        if (packet.length < least) {
            return null;
        }
        byte[] body = Arrays.copyOfRange(packet, 4, packet.length - (keys == null ? 0 : 16));
        if (keys != null) {
            for (int i = 0; i < body.length; i++) {
                body[i] ^= streamOf(keys[1], sequence, 1 + i / 64)[i % 64];
            }
        }
        int count = body.length - 1 - (body[0] & 255);
        if (count < 1 || count > 200) {
            return null;
        }
        byte[] payload = Arrays.copyOfRange(body, 1, 1 + count);
        return Arrays.equals(packet, sealedPacket(payload, keys, sequence)) ? payload : null;
    }

    private byte[] take() {
        byte[] taken = tape;
        tape = new byte[0];
        return taken;
    }

    private Side side(int end) {
        if (end < 0 || end > 1) {
            throw new NoSuchElementException();
        }
        return sides[end];
    }

    private static int at(byte[] row, int i) {
        if (i < 0 || i >= row.length) {
            throw new IndexOutOfBoundsException();
        }
        return row[i] & 255;
    }

    private void put(int end, byte[] payload) {
        Side from = sides[end];
        List<byte[]> wire = sides[1 - end].to;
        if (!from.alive) {
            return;
        }
        if (wire.size() >= 12) {
            from.alive = false;
            return;
        }
        wire.add(sealedPacket(payload, from.sendKeys, from.sent));
        from.sent++;
    }

    private int fail(int end, int answer) {
        put(end, one(1));
        sides[end].alive = false;
        return answer;
    }

    private void putInit(int end) {
        Side from = sides[end];
        from.initSent = join(one(20), from.cookie);
        put(end, from.initSent);
    }

    public boolean type(long w, int n) {
        if (n < 1 || n > 8 || tape.length + n > 600) {
            return false;
        }
        for (int i = 0; i < n; i++) {
            tape = join(tape, one((int) (w >>> (8 * i))));
        }
        return true;
    }

    public void set(int what) {
        byte[] row = take();
        if (what < 0 || what > 5) {
            throw new IndexOutOfBoundsException();
        }
        if (row.length != (what <= 3 ? 32 : 8)) {
            throw new IllegalArgumentException();
        }
        if (what <= 1) {
            sides[what].secret = row;
        } else if (what == 2) {
            host = row;
        } else if (what == 3) {
            trust = row;
        } else {
            sides[what - 4].cookie = row;
        }
    }

    public void multiply() {
        byte[] row = take();
        if (row.length != 64) {
            throw new IllegalArgumentException();
        }
        last = product(Arrays.copyOf(row, 32), Arrays.copyOfRange(row, 32, 64));
    }

    public void hash() {
        last = digest(take());
    }

    public void stream(long nonce, int counter) {
        byte[] row = take();
        if (row.length != 32 || nonce < 0 || counter < 0) {
            throw new IllegalArgumentException();
        }
        last = streamOf(row, nonce, counter);
    }

    public void tag() {
        byte[] row = take();
        if (row.length < 32) {
            throw new IllegalArgumentException();
        }
        last = tagOf(Arrays.copyOf(row, 32), Arrays.copyOfRange(row, 32, row.length));
    }

    public int out(int i) {
        return at(last, i);
    }

    public void begin(int end) {
        Side from = side(end);
        if (!from.alive || from.initSent != null) {
            throw new IllegalStateException();
        }
        putInit(end);
    }

    public void send(int end) {
        byte[] payload = take();
        Side from = side(end);
        if (payload.length < 1 || payload.length > 200) {
            throw new IllegalArgumentException();
        }
        int message = payload[0] & 255;
        boolean inner = message == 20 || message == 21 || message == 30 || message == 31;
        boolean waits = from.initSent != null && !from.newSent;
        if (!from.alive || inner || waits && (message < 1 || message > 3)) {
            throw new IllegalStateException();
        }
        put(end, payload);
        if (message == 1) {
            from.alive = false;
        }
    }

    public int come(int end) {
        Side me = side(end);
        if (me.to.isEmpty()) {
            return -1;
        }
        byte[] packet = me.to.remove(0);
        if (!me.alive) {
            return -4;
        }
        me.came++;
        byte[] payload = payloadOf(packet, me.comeKeys, me.came - 1);
        if (payload == null) {
            return fail(end, -2);
        }
        int message = payload[0] & 255;
        if (message == 1) {
            me.alive = false;
        } else if (message == 3) {
            me.unknown = payload.length == 5 ? new BigInteger(Arrays.copyOfRange(payload, 1, 5)).intValue() : -1;
        } else if (message == 20) {
            return comeInit(end, payload);
        } else if (message == 21) {
            return comeNew(end, payload);
        } else if (message == 30) {
            return comeRequest(end, payload);
        } else if (message == 31) {
            return comeReply(end, payload);
        } else if (message == 94) {
            if (me.initGot != null || me.got.length + payload.length - 1 > 2000) {
                return fail(end, -3);
            }
            me.got = join(me.got, Arrays.copyOfRange(payload, 1, payload.length));
        } else if (message != 2) {
            put(end, join(one(3), big(me.came - 1, 4)));
        }
        return message;
    }

    private int comeInit(int end, byte[] payload) {
        Side me = sides[end];
        if (me.initGot != null || payload.length != 9) {
            return fail(end, -3);
        }
        me.initGot = payload;
        if (me.initSent == null) {
            putInit(end);
        }
        if (end == 0) {
            me.takenSecret = me.secret;
            me.asked = true;
            put(0, join(one(30), publicRow(me.takenSecret)));
        }
        return 20;
    }

    private int comeNew(int end, byte[] payload) {
        Side me = sides[end];
        if (!me.newSent || payload.length != 1) {
            return fail(end, -3);
        }
        me.comeKeys = me.nextComeKeys;
        me.initSent = null;
        me.initGot = null;
        me.asked = false;
        me.replied = false;
        me.newSent = false;
        me.over++;
        return 21;
    }

    private int comeRequest(int end, byte[] payload) {
        Side me = sides[end];
        if (end != 1 || me.initSent == null || me.initGot == null || me.asked || payload.length != 33) {
            return fail(end, -3);
        }
        me.asked = true;
        byte[] theirs = Arrays.copyOfRange(payload, 1, 33);
        byte[] secret = me.secret;
        byte[] shared = product(secret, theirs);
        byte[] h = digest(me.initGot, me.initSent, publicRow(host), theirs, publicRow(secret), shared);
        byte[] proof = digest(product(host, theirs), h);
        put(1, join(one(31), publicRow(host), publicRow(secret), proof));
        put(1, one(21));
        renew(me, shared, h, 67, 65);
        return 30;
    }

    private int comeReply(int end, byte[] payload) {
        Side me = sides[end];
        if (end != 0 || !me.asked || me.replied || payload.length != 97) {
            return fail(end, -3);
        }
        me.replied = true;
        byte[] hostRow = Arrays.copyOfRange(payload, 1, 33);
        byte[] theirs = Arrays.copyOfRange(payload, 33, 65);
        byte[] shared = product(me.takenSecret, theirs);
        byte[] h = digest(me.initSent, me.initGot, hostRow, publicRow(me.takenSecret), theirs, shared);
        byte[] proof = digest(product(me.takenSecret, hostRow), h);
        if (!Arrays.equals(hostRow, trust) || !Arrays.equals(proof, Arrays.copyOfRange(payload, 65, 97))) {
            return fail(end, 31);
        }
        put(0, one(21));
        renew(me, shared, h, 65, 67);
        return 31;
    }

    private static void renew(Side me, byte[] shared, byte[] h, int mine, int theirs) {
        if (me.session == null) {
            me.session = h;
        }
        me.newSent = true;
        me.sendKeys = keys(me, shared, h, mine);
        me.nextComeKeys = keys(me, shared, h, theirs);
    }

    private static byte[][] keys(Side me, byte[] shared, byte[] h, int mark) {
        return new byte[][] {
            digest(shared, h, one(mark), me.session), digest(shared, h, one(mark + 1), me.session)
        };
    }

    public int run(int n) {
        if (n < 0 || n > 50) {
            throw new IllegalArgumentException();
        }
        int count = 0;
        int turn = 1;
        while (count < n && !(sides[0].to.isEmpty() && sides[1].to.isEmpty())) {
            if (!sides[turn].to.isEmpty()) {
                come(turn);
                count++;
            }
            turn = 1 - turn;
        }
        return count;
    }

    private byte[] packetAt(int end, int k) {
        Side me = side(end);
        if (k < 0 || k >= me.to.size()) {
            throw new NoSuchElementException();
        }
        return me.to.get(k);
    }

    public int packet(int end, int k, int i) {
        byte[] packet = packetAt(end, k);
        return i == -1 ? packet.length : at(packet, i);
    }

    public void damage(int end, int k, int i, int x) {
        byte[] packet = packetAt(end, k);
        at(packet, i);
        if (x < 0 || x > 255) {
            throw new IllegalArgumentException();
        }
        packet[i] ^= (byte) x;
    }

    public int got(int end, int i) {
        return at(side(end).got, i);
    }

    public int about(int end, int what) {
        Side me = side(end);
        if (what < 0 || what > 8) {
            throw new IndexOutOfBoundsException();
        }
        return new int[] {
            me.alive ? 1 : 0, me.sent, me.came, me.got.length, me.over, me.to.size(),
            me.initSent == null ? 0 : 1, me.initGot == null ? 0 : 1, me.unknown
        }[what];
    }

    public int session(int end, int i) {
        Side me = side(end);
        if (i < 0 || i > 31) {
            throw new IndexOutOfBoundsException();
        }
        if (me.session == null) {
            throw new IllegalStateException();
        }
        return me.session[i] & 255;
    }
}
