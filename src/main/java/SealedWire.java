import java.util.Arrays;
import java.util.NoSuchElementException;

/**
 * A sealed wire between a client and a server. All rows are made with the object and used again: no
 * call makes an array or an object but for an exception that it throws.
 */
public final class SealedWire {
    private static final int CLIENT = 0;
    private static final int SERVER = 1;

    private static final int END = 1;
    private static final int IGNORE = 2;
    private static final int UNKNOWN = 3;
    private static final int INIT = 20;
    private static final int NEW = 21;
    private static final int REQUEST = 30;
    private static final int REPLY = 31;
    private static final int DATA = 94;

    private static final int NO_PACKET = -1;
    private static final int BROKEN = -2;
    private static final int OUT_OF_PLACE = -3;
    private static final int ENDED_BEFORE = -4;

    private static final int MOST_TYPED = 600;
    private static final int MOST_PAYLOAD = 200;
    private static final int MOST_GOT = 2000;
    private static final int MOST_ON_WIRE = 12;
    private static final int MOST_IN_RUN = 50;
    private static final int WIDEST_OUT = 64;
    private static final int KEY = 32;
    private static final int COOKIE = 8;

    private static final int INIT_SIZE = 9;
    private static final int NEW_SIZE = 1;
    private static final int REQUEST_SIZE = 33;
    private static final int REPLY_SIZE = 97;
    private static final int UNKNOWN_SIZE = 5;

    /** Where the rows stand in the payloads of REQUEST and REPLY. */
    private static final int REQUEST_PUBLIC = 1;
    private static final int REPLY_HOST = 1;
    private static final int REPLY_PUBLIC = 33;
    private static final int REPLY_PROOF = 65;

    /** The mark of HEAD in the hash that makes keys; that of BODY is one more. */
    private static final int CLIENT_MARK = 65;
    private static final int SERVER_MARK = 67;

    private static final int[] NINE = {
        9, 0, 0, 0, 0, 0, 0, 0, 0, 0, 0, 0, 0, 0, 0, 0,
        0, 0, 0, 0, 0, 0, 0, 0, 0, 0, 0, 0, 0, 0, 0, 0
    };

    private final Curve curve = new Curve();
    private final Hasher hasher = new Hasher();
    private final Sealer sealer = new Sealer();
    private final End client = new End();
    private final End server = new End();
    private final int[] hostSecret = new int[KEY];
    private final int[] trusted = new int[KEY];
    private final int[] hostRow = new int[KEY];
    private final int[] shared = new int[KEY];
    private final int[] agreed = new int[KEY];
    private final int[] proof = new int[KEY];
    private final Row lastOut = new Row(WIDEST_OUT);
    private final Row incoming = new Row(MOST_PAYLOAD);
    private final Row outgoing = new Row(MOST_PAYLOAD);
    private Row tape = new Row(MOST_TYPED);
    private Row spareTape = new Row(MOST_TYPED);

    public SealedWire() {
    }

    public boolean type(long w, int n) {
        if (n < 1 || n > 8 || !tape.hasRoom(n)) {
            return false;
        }
        for (int i = 0; i < n; i++) {
            tape.put((int) (w >> (8 * i)) & 255);
        }
        return true;
    }

    public void set(int what) throws IndexOutOfBoundsException, IllegalArgumentException {
        Row taken = takeTape();
        if (what < 0 || what > 5) {
            throw new IndexOutOfBoundsException();
        }
        int[] row = settable(what);
        if (taken.size != row.length) {
            throw new IllegalArgumentException();
        }
        System.arraycopy(taken.bytes, 0, row, 0, row.length);
    }

    public void multiply() throws IllegalArgumentException {
        Row taken = takeTape();
        if (taken.size != 2 * KEY) {
            throw new IllegalArgumentException();
        }
        curve.times(taken.bytes, taken.bytes, KEY, lastOut.bytes);
        lastOut.size = KEY;
    }

    public void hash() {
        Row taken = takeTape();
        hasher.start();
        hasher.addRow(taken.bytes, 0, taken.size);
        hasher.finish(lastOut.bytes);
        lastOut.size = Hasher.SIZE;
    }

    public void stream(long nonce, int counter) throws IllegalArgumentException {
        Row taken = takeTape();
        if (taken.size != KEY || nonce < 0 || counter < 0) {
            throw new IllegalArgumentException();
        }
        sealer.streamer.make(taken.bytes, nonce, counter);
        lastOut.clear();
        lastOut.putAll(sealer.streamer.bytes, 0, Streamer.SIZE);
    }

    public void tag() throws IllegalArgumentException {
        Row taken = takeTape();
        if (taken.size < KEY) {
            throw new IllegalArgumentException();
        }
        sealer.tagger.make(taken.bytes, KEY, taken.size, taken.bytes);
        lastOut.clear();
        lastOut.putAll(sealer.tagger.bytes, 0, Tagger.SIZE);
    }

    public int out(int i) throws IndexOutOfBoundsException {
        return byteOf(lastOut, i);
    }

    public void begin(int end) throws NoSuchElementException, IllegalStateException {
        End begins = endOf(end);
        if (!begins.lives || begins.exchange.sentInit) {
            throw new IllegalStateException();
        }
        writeInit(begins);
        emit(begins);
    }

    public void send(int end) throws NoSuchElementException, IllegalArgumentException, IllegalStateException {
        Row taken = takeTape();
        End from = endOf(end);
        if (taken.size < 1 || taken.size > MOST_PAYLOAD) {
            throw new IllegalArgumentException();
        }
        int message = taken.bytes[0];
        if (!maySend(from, message)) {
            throw new IllegalStateException();
        }
        outgoing.clear();
        outgoing.putAll(taken.bytes, 0, taken.size);
        emit(from);
        if (message == END) {
            from.lives = false;
        }
    }

    public int come(int end) throws NoSuchElementException {
        return deliver(endOf(end));
    }

    public int run(int n) throws IllegalArgumentException {
        if (n < 0 || n > MOST_IN_RUN) {
            throw new IllegalArgumentException();
        }
        int came = 0;
        // Of two turns at least one brings a packet while there are any, so 2 * n turns are enough.
        for (int turn = 0; turn < 2 * n && came < n; turn++) {
            End end = turn % 2 == 0 ? server : client;
            if (end.wire.count > 0) {
                deliver(end);
                came++;
            }
        }
        return came;
    }

    public int packet(int end, int k, int i) throws NoSuchElementException, IndexOutOfBoundsException {
        Row row = packetOf(endOf(end), k);
        return i == -1 ? row.size : byteOf(row, i);
    }

    public void damage(int end, int k, int i, int x)
            throws NoSuchElementException, IndexOutOfBoundsException, IllegalArgumentException {
        Row row = packetOf(endOf(end), k);
        if (!row.holds(i)) {
            throw new IndexOutOfBoundsException();
        }
        if (x < 0 || x > 255) {
            throw new IllegalArgumentException();
        }
        row.bytes[i] ^= x;
    }

    public int got(int end, int i) throws NoSuchElementException, IndexOutOfBoundsException {
        return byteOf(endOf(end).got, i);
    }

    public int about(int end, int what) throws NoSuchElementException, IndexOutOfBoundsException {
        End asked = endOf(end);
        switch (what) {
            case 0:
                return asked.lives ? 1 : 0;
            case 1:
                return asked.sent;
            case 2:
                return asked.came;
            case 3:
                return asked.got.size;
            case 4:
                return asked.over;
            case 5:
                return asked.wire.count;
            case 6:
                return asked.exchange.sentInit ? 1 : 0;
            case 7:
                return asked.exchange.gotInit ? 1 : 0;
            case 8:
                return asked.lastUnknown;
            default:
                throw new IndexOutOfBoundsException();
        }
    }

    public int session(int end, int i)
            throws NoSuchElementException, IndexOutOfBoundsException, IllegalStateException {
        End asked = endOf(end);
        if (i < 0 || i >= KEY) {
            throw new IndexOutOfBoundsException();
        }
        if (!asked.hasSession) {
            throw new IllegalStateException();
        }
        return asked.session[i];
    }

    /** A call that takes the tape empties it even if it throws, so this comes before every check. */
    private Row takeTape() {
        Row taken = tape;
        tape = spareTape;
        spareTape = taken;
        tape.clear();
        return taken;
    }

    private int[] settable(int what) {
        switch (what) {
            case 0:
                return client.secret;
            case 1:
                return server.secret;
            case 2:
                return hostSecret;
            case 3:
                return trusted;
            case 4:
                return client.cookie;
            default:
                return server.cookie;
        }
    }

    private End endOf(int end) {
        if (end != CLIENT && end != SERVER) {
            throw new NoSuchElementException();
        }
        return end == CLIENT ? client : server;
    }

    private static Row packetOf(End end, int k) {
        if (k < 0 || k >= end.wire.count) {
            throw new NoSuchElementException();
        }
        return end.wire.at(k);
    }

    private static int byteOf(Row row, int i) {
        if (!row.holds(i)) {
            throw new IndexOutOfBoundsException();
        }
        return row.bytes[i];
    }

    private static boolean maySend(End from, int message) {
        if (!from.lives || message == INIT || message == NEW || message == REQUEST || message == REPLY) {
            return false;
        }
        boolean between = from.exchange.sentInit && !from.exchange.sentNew;
        return !between || message == END || message == IGNORE || message == UNKNOWN;
    }

    /** Sends the outgoing payload. */
    private void emit(End from) {
        if (!from.lives) {
            return;
        }
        Wire wire = from == client ? server.wire : client.wire;
        if (wire.count == MOST_ON_WIRE) {
            from.lives = false;
            return;
        }
        sealer.close(outgoing, from.sending, from.sent, wire.append());
        from.sent++;
    }

    private void writeSingle(int message) {
        outgoing.clear();
        outgoing.put(message);
    }

    private void giveUp(End end) {
        writeSingle(END);
        emit(end);
        end.lives = false;
    }

    private int deliver(End end) {
        if (end.wire.count == 0) {
            return NO_PACKET;
        }
        Row first = end.wire.removeFirst();
        if (!end.lives) {
            return ENDED_BEFORE;
        }
        int sequence = end.came;
        end.came++;
        if (!sealer.open(first, end.coming, sequence, incoming)) {
            giveUp(end);
            return BROKEN;
        }
        int message = incoming.bytes[0];
        if (!isInPlace(end, message)) {
            giveUp(end);
            return OUT_OF_PLACE;
        }
        switch (message) {
            case END:
                end.lives = false;
                break;
            case IGNORE:
                break;
            case UNKNOWN:
                end.lastUnknown = incoming.size == UNKNOWN_SIZE ? incoming.bigAt(1) : -1;
                break;
            case INIT:
                onInit(end);
                break;
            case NEW:
                end.finishExchange();
                break;
            case REQUEST:
                onRequest();
                break;
            case REPLY:
                if (!acceptReply()) {
                    giveUp(end);
                }
                break;
            case DATA:
                end.got.putAll(incoming.bytes, 1, incoming.size - 1);
                break;
            default:
                answerUnknown(end, sequence);
                break;
        }
        return message;
    }

    /** Whether the incoming message may come now, with so many bytes; those without a place always may. */
    private boolean isInPlace(End end, int message) {
        Exchange exchange = end.exchange;
        int size = incoming.size;
        switch (message) {
            case INIT:
                return size == INIT_SIZE && !exchange.gotInit;
            case NEW:
                return size == NEW_SIZE && exchange.sentNew;
            case REQUEST:
                return size == REQUEST_SIZE && end == server
                        && exchange.sentInit && exchange.gotInit && !exchange.requested;
            case REPLY:
                return size == REPLY_SIZE && end == client && exchange.requested && !exchange.replied;
            case DATA:
                return !exchange.gotInit && end.got.hasRoom(size - 1);
            default:
                return true;
        }
    }

    private void answerUnknown(End end, int sequence) {
        outgoing.clear();
        outgoing.put(UNKNOWN);
        outgoing.putBig(sequence);
        emit(end);
    }

    /** The payload is kept: its cookie may be set anew before the hash of the exchange is made. */
    private void writeInit(End end) {
        Exchange exchange = end.exchange;
        exchange.ownInit[0] = INIT;
        System.arraycopy(end.cookie, 0, exchange.ownInit, 1, COOKIE);
        exchange.sentInit = true;
        outgoing.clear();
        outgoing.putAll(exchange.ownInit, 0, INIT_SIZE);
    }

    private void onInit(End end) {
        Exchange exchange = end.exchange;
        System.arraycopy(incoming.bytes, 0, exchange.otherInit, 0, INIT_SIZE);
        exchange.gotInit = true;
        if (!exchange.sentInit) {
            writeInit(end);
            emit(end);
        }
        if (end == client) {
            takeSecret(client);
            exchange.requested = true;
            outgoing.clear();
            outgoing.put(REQUEST);
            outgoing.putAll(exchange.publicRow, 0, KEY);
            emit(client);
        }
    }

    /** The secret is kept: it may be set anew before REPLY comes. */
    private void takeSecret(End end) {
        System.arraycopy(end.secret, 0, end.exchange.secret, 0, KEY);
        curve.times(end.exchange.secret, NINE, 0, end.exchange.publicRow);
    }

    private void onRequest() {
        Exchange exchange = server.exchange;
        exchange.requested = true;
        takeSecret(server);
        curve.times(hostSecret, NINE, 0, hostRow);
        curve.times(exchange.secret, incoming.bytes, REQUEST_PUBLIC, shared);
        startAgreement(exchange.otherInit, exchange.ownInit, hostRow, 0);
        hasher.addRow(incoming.bytes, REQUEST_PUBLIC, KEY);
        hasher.addRow(exchange.publicRow, 0, KEY);
        finishAgreement();
        curve.times(hostSecret, incoming.bytes, REQUEST_PUBLIC, proof);
        makeProof();
        outgoing.clear();
        outgoing.put(REPLY);
        outgoing.putAll(hostRow, 0, KEY);
        outgoing.putAll(exchange.publicRow, 0, KEY);
        outgoing.putAll(proof, 0, KEY);
        emit(server);
        writeSingle(NEW);
        emit(server);
        turnToNewKeys(server, SERVER_MARK, CLIENT_MARK);
    }

    /** False, when the server did not prove that it has the secret of the host that is trusted. */
    private boolean acceptReply() {
        Exchange exchange = client.exchange;
        exchange.replied = true;
        curve.times(exchange.secret, incoming.bytes, REPLY_PUBLIC, shared);
        startAgreement(exchange.ownInit, exchange.otherInit, incoming.bytes, REPLY_HOST);
        hasher.addRow(exchange.publicRow, 0, KEY);
        hasher.addRow(incoming.bytes, REPLY_PUBLIC, KEY);
        finishAgreement();
        curve.times(exchange.secret, incoming.bytes, REPLY_HOST, proof);
        makeProof();
        if (incoming.differsAt(REPLY_HOST, trusted) || incoming.differsAt(REPLY_PROOF, proof)) {
            return false;
        }
        writeSingle(NEW);
        emit(client);
        turnToNewKeys(client, CLIENT_MARK, SERVER_MARK);
        return true;
    }

    private void startAgreement(int[] clientInit, int[] serverInit, int[] host, int hostAt) {
        hasher.start();
        hasher.addRow(clientInit, 0, INIT_SIZE);
        hasher.addRow(serverInit, 0, INIT_SIZE);
        hasher.addRow(host, hostAt, KEY);
    }

    private void finishAgreement() {
        hasher.addRow(shared, 0, KEY);
        hasher.finish(agreed);
    }

    /** Makes the proof of the product that stands in its row. */
    private void makeProof() {
        hasher.start();
        hasher.addRow(proof, 0, KEY);
        hasher.addRow(agreed, 0, KEY);
        hasher.finish(proof);
    }

    /** Comes behind NEW, which goes with the old keys. */
    private void turnToNewKeys(End end, int sendingMark, int comingMark) {
        if (!end.hasSession) {
            end.hasSession = true;
            System.arraycopy(agreed, 0, end.session, 0, KEY);
        }
        end.exchange.sentNew = true;
        makeKey(end.sending.head, sendingMark, end.session);
        makeKey(end.sending.body, sendingMark + 1, end.session);
        end.sending.made = true;
        makeKey(end.exchange.nextComing.head, comingMark, end.session);
        makeKey(end.exchange.nextComing.body, comingMark + 1, end.session);
        end.exchange.nextComing.made = true;
    }

    private void makeKey(int[] key, int mark, int[] session) {
        hasher.start();
        hasher.addRow(shared, 0, KEY);
        hasher.addRow(agreed, 0, KEY);
        hasher.add(mark);
        hasher.addRow(session, 0, KEY);
        hasher.finish(key);
    }

    /** Bytes, up to as many as it was made for. */
    private static final class Row {
        final int[] bytes;
        int size;

        Row(int room) {
            bytes = new int[room];
        }

        void clear() {
            size = 0;
        }

        boolean hasRoom(int count) {
            return size + count <= bytes.length;
        }

        boolean holds(int i) {
            return i >= 0 && i < size;
        }

        void put(int b) {
            if (size < bytes.length) {
                bytes[size] = b;
                size++;
            }
        }

        void putAll(int[] from, int at, int count) {
            if (at >= 0 && count >= 0 && at + count <= from.length && hasRoom(count)) {
                System.arraycopy(from, at, bytes, size, count);
                size += count;
            }
        }

        void putBig(int number) {
            for (int shift = 24; shift >= 0; shift -= 8) {
                put(number >>> shift & 255);
            }
        }

        int bigAt(int at) {
            int number = 0;
            for (int i = at; i < at + 4 && holds(i); i++) {
                number = number << 8 | bytes[i];
            }
            return number;
        }

        boolean differsAt(int at, int[] other) {
            boolean differs = false;
            for (int i = 0; i < other.length; i++) {
                differs |= !holds(at + i) || bytes[at + i] != other[i];
            }
            return differs;
        }
    }

    /** Big numbers as little rows of limbs of 26 bits. */
    private static final class Limbs {
        static final int BITS = 26;
        static final long MASK = (1L << BITS) - 1;

        static void read(int[] bytes, int from, int count, long[] limbs) {
            long held = 0;
            int bits = 0;
            int limb = 0;
            for (int i = from; i < from + count; i++) {
                held |= (long) bytes[i] << bits;
                bits += 8;
                if (bits >= BITS && limb < limbs.length) {
                    limbs[limb] = held & MASK;
                    limb++;
                    held >>= BITS;
                    bits -= BITS;
                }
            }
            if (limb < limbs.length) {
                limbs[limb] = held;
            }
        }

        /** Each limb must have at most 26 bits; bytes above the first so many are left out. */
        static void write(long[] limbs, int[] bytes, int count) {
            long held = 0;
            int bits = 0;
            int at = 0;
            for (int limb = 0; limb < limbs.length; limb++) {
                held |= limbs[limb] << bits;
                bits += BITS;
                for (; bits >= 8 && at < count; bits -= 8) {
                    bytes[at] = (int) held & 255;
                    held >>= 8;
                    at++;
                }
            }
        }
    }

    /**
     * Numbers modulo P = 2^255 - 19 are ten limbs; the limbs of a product are below 2^26 but for the
     * second, which may be a little more, those of a sum or a difference below 2^28: so ten products
     * of these have room in a long. No limb is ever below zero.
     */
    private static final class Curve {
        private static final int LIMBS = 10;
        private static final int TOP = 9;
        private static final int TOP_BITS = 21;
        private static final long TOP_MASK = (1L << TOP_BITS) - 1;
        /** 2^255 and 2^260 modulo P. */
        private static final long OVER_TOP = 19;
        private static final long OVER_LIMBS = 608;
        private static final long CURVE_FACTOR = 121665;

        private final int[] factor = new int[KEY];
        private final long[] u = new long[LIMBS];
        private final long[] x2 = new long[LIMBS];
        private final long[] z2 = new long[LIMBS];
        private final long[] x3 = new long[LIMBS];
        private final long[] z3 = new long[LIMBS];
        private final long[] a = new long[LIMBS];
        private final long[] b = new long[LIMBS];
        private final long[] c = new long[LIMBS];
        private final long[] d = new long[LIMBS];
        private final long[] e = new long[LIMBS];
        private final long[] wide = new long[2 * LIMBS];

        /** MULTIPLY of the first 32 bytes of k and 32 of point from pointAt on. */
        void times(int[] k, int[] point, int pointAt, int[] result) {
            System.arraycopy(k, 0, factor, 0, KEY);
            factor[0] &= 248;
            factor[31] = factor[31] & 127 | 64;
            Limbs.read(point, pointAt, KEY, u);
            u[TOP] &= TOP_MASK;
            setSmall(x2, 1);
            setSmall(z2, 0);
            System.arraycopy(u, 0, x3, 0, LIMBS);
            setSmall(z3, 1);
            for (int bit = 254; bit >= 0; bit--) {
                // Changing places before and after a step is the same as a step on changed places.
                if ((factor[bit >> 3] >> (bit & 7) & 1) == 1) {
                    step(x3, z3, x2, z2);
                } else {
                    step(x2, z2, x3, z3);
                }
            }
            invert(z2, a);
            product(a, x2, a);
            settle(a);
            Limbs.write(a, result, KEY);
        }

        private static void setSmall(long[] row, long value) {
            Arrays.fill(row, 0);
            row[0] = value;
        }

        private void step(long[] doubledX, long[] doubledZ, long[] addedX, long[] addedZ) {
            sum(a, doubledX, doubledZ);
            difference(b, doubledX, doubledZ);
            sum(c, addedX, addedZ);
            difference(d, addedX, addedZ);
            product(d, d, a);
            product(c, c, b);
            square(a, a);
            square(b, b);
            sum(e, d, c);
            square(addedX, e);
            difference(e, d, c);
            square(e, e);
            product(addedZ, u, e);
            product(doubledX, a, b);
            difference(e, a, b);
            scale(b, e);
            sum(b, a, b);
            product(doubledZ, e, b);
        }

        /** z^(P - 2): of the bits of P - 2 below bit 254 only 2 and 4 are zeros. */
        private void invert(long[] z, long[] result) {
            System.arraycopy(z, 0, result, 0, LIMBS);
            for (int bit = 253; bit >= 0; bit--) {
                square(result, result);
                if (bit != 2 && bit != 4) {
                    product(result, result, z);
                }
            }
        }

        private static void sum(long[] r, long[] p, long[] q) {
            for (int i = 0; i < LIMBS; i++) {
                r[i] = p[i] + q[i];
            }
        }

        /** Twice P is added, so that no limb falls below zero: q must be no sum and no difference. */
        private static void difference(long[] r, long[] p, long[] q) {
            r[0] = p[0] - q[0] + 2 * (Limbs.MASK + 1 - OVER_TOP);
            for (int i = 1; i < TOP; i++) {
                r[i] = p[i] - q[i] + 2 * Limbs.MASK;
            }
            r[TOP] = p[TOP] - q[TOP] + 2 * TOP_MASK;
        }

        private void scale(long[] r, long[] p) {
            Arrays.fill(wide, 0);
            for (int i = 0; i < LIMBS; i++) {
                wide[i] = p[i] * CURVE_FACTOR;
            }
            fold(r);
        }

        /** Written out without loops, for nearly all time of an exchange goes here. */
        private void product(long[] r, long[] p, long[] q) {
            long p0 = p[0], p1 = p[1], p2 = p[2], p3 = p[3], p4 = p[4];
            long p5 = p[5], p6 = p[6], p7 = p[7], p8 = p[8], p9 = p[9];
            long q0 = q[0], q1 = q[1], q2 = q[2], q3 = q[3], q4 = q[4];
            long q5 = q[5], q6 = q[6], q7 = q[7], q8 = q[8], q9 = q[9];
            wide[0] = p0 * q0;
            wide[1] = p0 * q1 + p1 * q0;
            wide[2] = p0 * q2 + p1 * q1 + p2 * q0;
            wide[3] = p0 * q3 + p1 * q2 + p2 * q1 + p3 * q0;
            wide[4] = p0 * q4 + p1 * q3 + p2 * q2 + p3 * q1 + p4 * q0;
            wide[5] = p0 * q5 + p1 * q4 + p2 * q3 + p3 * q2 + p4 * q1 + p5 * q0;
            wide[6] = p0 * q6 + p1 * q5 + p2 * q4 + p3 * q3 + p4 * q2 + p5 * q1 + p6 * q0;
            wide[7] = p0 * q7 + p1 * q6 + p2 * q5 + p3 * q4 + p4 * q3 + p5 * q2 + p6 * q1 + p7 * q0;
            wide[8] = p0 * q8 + p1 * q7 + p2 * q6 + p3 * q5 + p4 * q4 + p5 * q3 + p6 * q2 + p7 * q1
                    + p8 * q0;
            wide[9] = p0 * q9 + p1 * q8 + p2 * q7 + p3 * q6 + p4 * q5 + p5 * q4 + p6 * q3 + p7 * q2
                    + p8 * q1 + p9 * q0;
            wide[10] = p1 * q9 + p2 * q8 + p3 * q7 + p4 * q6 + p5 * q5 + p6 * q4 + p7 * q3 + p8 * q2
                    + p9 * q1;
            wide[11] = p2 * q9 + p3 * q8 + p4 * q7 + p5 * q6 + p6 * q5 + p7 * q4 + p8 * q3 + p9 * q2;
            wide[12] = p3 * q9 + p4 * q8 + p5 * q7 + p6 * q6 + p7 * q5 + p8 * q4 + p9 * q3;
            wide[13] = p4 * q9 + p5 * q8 + p6 * q7 + p7 * q6 + p8 * q5 + p9 * q4;
            wide[14] = p5 * q9 + p6 * q8 + p7 * q7 + p8 * q6 + p9 * q5;
            wide[15] = p6 * q9 + p7 * q8 + p8 * q7 + p9 * q6;
            wide[16] = p7 * q9 + p8 * q8 + p9 * q7;
            wide[17] = p8 * q9 + p9 * q8;
            wide[18] = p9 * q9;
            wide[19] = 0;
            fold(r);
        }

        private void square(long[] r, long[] p) {
            long p0 = p[0], p1 = p[1], p2 = p[2], p3 = p[3], p4 = p[4];
            long p5 = p[5], p6 = p[6], p7 = p[7], p8 = p[8], p9 = p[9];
            wide[0] = p0 * p0;
            wide[1] = 2 * (p0 * p1);
            wide[2] = 2 * (p0 * p2) + p1 * p1;
            wide[3] = 2 * (p0 * p3 + p1 * p2);
            wide[4] = 2 * (p0 * p4 + p1 * p3) + p2 * p2;
            wide[5] = 2 * (p0 * p5 + p1 * p4 + p2 * p3);
            wide[6] = 2 * (p0 * p6 + p1 * p5 + p2 * p4) + p3 * p3;
            wide[7] = 2 * (p0 * p7 + p1 * p6 + p2 * p5 + p3 * p4);
            wide[8] = 2 * (p0 * p8 + p1 * p7 + p2 * p6 + p3 * p5) + p4 * p4;
            wide[9] = 2 * (p0 * p9 + p1 * p8 + p2 * p7 + p3 * p6 + p4 * p5);
            wide[10] = 2 * (p1 * p9 + p2 * p8 + p3 * p7 + p4 * p6) + p5 * p5;
            wide[11] = 2 * (p2 * p9 + p3 * p8 + p4 * p7 + p5 * p6);
            wide[12] = 2 * (p3 * p9 + p4 * p8 + p5 * p7) + p6 * p6;
            wide[13] = 2 * (p4 * p9 + p5 * p8 + p6 * p7);
            wide[14] = 2 * (p5 * p9 + p6 * p8) + p7 * p7;
            wide[15] = 2 * (p6 * p9 + p7 * p8);
            wide[16] = 2 * (p7 * p9) + p8 * p8;
            wide[17] = 2 * (p8 * p9);
            wide[18] = p9 * p9;
            wide[19] = 0;
            fold(r);
        }

        /** Makes ten limbs of the wide ones; the upper are carried first, as their fold needs the room. */
        private void fold(long[] r) {
            long carry = 0;
            for (int i = LIMBS; i < 2 * LIMBS; i++) {
                long limb = wide[i] + carry;
                carry = limb >> Limbs.BITS;
                wide[i] = limb & Limbs.MASK;
            }
            carry = 0;
            for (int i = 0; i < TOP; i++) {
                long limb = wide[i] + OVER_LIMBS * wide[i + LIMBS] + carry;
                carry = limb >> Limbs.BITS;
                r[i] = limb & Limbs.MASK;
            }
            long top = wide[TOP] + OVER_LIMBS * wide[TOP + LIMBS] + carry;
            r[TOP] = top & TOP_MASK;
            long low = r[0] + OVER_TOP * (top >> TOP_BITS);
            r[0] = low & Limbs.MASK;
            r[1] += low >> Limbs.BITS;
        }

        /** Takes P away where a product is not below it: then 19 more has the bit 255. */
        private static void settle(long[] r) {
            long carry = OVER_TOP;
            for (int i = 0; i < TOP; i++) {
                carry = (r[i] + carry) >> Limbs.BITS;
            }
            carry = OVER_TOP * ((r[TOP] + carry) >> TOP_BITS);
            for (int i = 0; i < TOP; i++) {
                long limb = r[i] + carry;
                r[i] = limb & Limbs.MASK;
                carry = limb >> Limbs.BITS;
            }
            r[TOP] = (r[TOP] + carry) & TOP_MASK;
        }
    }

    /** THE HASH, of at most 600 bytes that are added one behind another. */
    private static final class Hasher {
        static final int SIZE = 32;
        private static final int BLOCK = 64;
        /** 600 bytes and what comes behind them. */
        private static final int LARGEST = 640;

        private static final int[] FIRST = {
            0x6a09e667, 0xbb67ae85, 0x3c6ef372, 0xa54ff53a, 0x510e527f, 0x9b05688c, 0x1f83d9ab, 0x5be0cd19
        };

        private static final int[] ROUND = {
            0x428a2f98, 0x71374491, 0xb5c0fbcf, 0xe9b5dba5, 0x3956c25b, 0x59f111f1, 0x923f82a4, 0xab1c5ed5,
            0xd807aa98, 0x12835b01, 0x243185be, 0x550c7dc3, 0x72be5d74, 0x80deb1fe, 0x9bdc06a7, 0xc19bf174,
            0xe49b69c1, 0xefbe4786, 0x0fc19dc6, 0x240ca1cc, 0x2de92c6f, 0x4a7484aa, 0x5cb0a9dc, 0x76f988da,
            0x983e5152, 0xa831c66d, 0xb00327c8, 0xbf597fc7, 0xc6e00bf3, 0xd5a79147, 0x06ca6351, 0x14292967,
            0x27b70a85, 0x2e1b2138, 0x4d2c6dfc, 0x53380d13, 0x650a7354, 0x766a0abb, 0x81c2c92e, 0x92722c85,
            0xa2bfe8a1, 0xa81a664b, 0xc24b8b70, 0xc76c51a3, 0xd192e819, 0xd6990624, 0xf40e3585, 0x106aa070,
            0x19a4c116, 0x1e376c08, 0x2748774c, 0x34b0bcb5, 0x391c0cb3, 0x4ed8aa4a, 0x5b9cca4f, 0x682e6ff3,
            0x748f82ee, 0x78a5636f, 0x84c87814, 0x8cc70208, 0x90befffa, 0xa4506ceb, 0xbef9a3f7, 0xc67178f2
        };

        private final int[] state = new int[8];
        private final int[] words = new int[BLOCK];
        private final Row message = new Row(LARGEST);

        void start() {
            message.clear();
        }

        void addRow(int[] row, int from, int count) {
            message.putAll(row, from, count);
        }

        void add(int b) {
            message.put(b);
        }

        /** The result may be a row that was added. */
        void finish(int[] result) {
            int bits = 8 * message.size;
            int zeros = (2 * BLOCK - 9 - message.size % BLOCK) % BLOCK;
            message.put(128);
            // The bits of at most 600 bytes have room in the lower four of eight bytes.
            for (int i = 0; i < zeros + 4; i++) {
                message.put(0);
            }
            message.putBig(bits);
            System.arraycopy(FIRST, 0, state, 0, FIRST.length);
            for (int at = 0; at + BLOCK <= message.size; at += BLOCK) {
                mix(at);
            }
            for (int i = 0; i < SIZE; i++) {
                result[i] = state[i >> 2] >>> (24 - 8 * (i & 3)) & 255;
            }
        }

        private void mix(int from) {
            spread(from);
            int a = state[0];
            int b = state[1];
            int c = state[2];
            int d = state[3];
            int e = state[4];
            int f = state[5];
            int g = state[6];
            int h = state[7];
            for (int t = 0; t < BLOCK; t++) {
                int upper = (e >>> 6 | e << 26) ^ (e >>> 11 | e << 21) ^ (e >>> 25 | e << 7);
                int first = h + upper + (e & f ^ ~e & g) + ROUND[t] + words[t];
                int lower = (a >>> 2 | a << 30) ^ (a >>> 13 | a << 19) ^ (a >>> 22 | a << 10);
                int second = lower + (a & b ^ a & c ^ b & c);
                h = g;
                g = f;
                f = e;
                e = d + first;
                d = c;
                c = b;
                b = a;
                a = first + second;
            }
            state[0] += a;
            state[1] += b;
            state[2] += c;
            state[3] += d;
            state[4] += e;
            state[5] += f;
            state[6] += g;
            state[7] += h;
        }

        private void spread(int from) {
            int[] bytes = message.bytes;
            for (int t = 0; t < 16; t++) {
                int at = from + 4 * t;
                words[t] = bytes[at] << 24 | bytes[at + 1] << 16 | bytes[at + 2] << 8 | bytes[at + 3];
            }
            for (int t = 16; t < BLOCK; t++) {
                int far = words[t - 15];
                int near = words[t - 2];
                int s0 = (far >>> 7 | far << 25) ^ (far >>> 18 | far << 14) ^ far >>> 3;
                int s1 = (near >>> 17 | near << 15) ^ (near >>> 19 | near << 13) ^ near >>> 10;
                words[t] = words[t - 16] + s0 + words[t - 7] + s1;
            }
        }
    }

    /** THE STREAM. */
    private static final class Streamer {
        static final int SIZE = 64;
        private static final int WORDS = 16;
        private static final int ROUNDS = 10;

        private static final int[] QUARTERS = {
            0, 4, 8, 12, 1, 5, 9, 13, 2, 6, 10, 14, 3, 7, 11, 15,
            0, 5, 10, 15, 1, 6, 11, 12, 2, 7, 8, 13, 3, 4, 9, 14
        };

        final int[] bytes = new int[SIZE];
        private final int[] first = new int[WORDS];
        private final int[] words = new int[WORDS];

        /** The key is the first 32 bytes of its row. */
        void make(int[] key, long nonce, int counter) {
            fillFirst(key, nonce, counter);
            System.arraycopy(first, 0, words, 0, WORDS);
            for (int round = 0; round < ROUNDS; round++) {
                for (int q = 0; q < QUARTERS.length; q += 4) {
                    quarter(QUARTERS[q], QUARTERS[q + 1], QUARTERS[q + 2], QUARTERS[q + 3]);
                }
            }
            for (int i = 0; i < SIZE; i++) {
                bytes[i] = (words[i >> 2] + first[i >> 2]) >>> (8 * (i & 3)) & 255;
            }
        }

        private void fillFirst(int[] key, long nonce, int counter) {
            first[0] = 0x61707865;
            first[1] = 0x3320646e;
            first[2] = 0x79622d32;
            first[3] = 0x6b206574;
            for (int i = 0; i < 8; i++) {
                int at = 4 * i;
                first[4 + i] = key[at] | key[at + 1] << 8 | key[at + 2] << 16 | key[at + 3] << 24;
            }
            first[12] = counter;
            first[13] = 0;
            first[14] = 0;
            first[15] = 0;
            for (int shift = 0; shift < 32; shift += 8) {
                first[14] |= (int) (nonce >>> (56 - shift) & 255) << shift;
                first[15] |= (int) (nonce >>> (24 - shift) & 255) << shift;
            }
        }

        private void quarter(int atA, int atB, int atC, int atD) {
            int a = words[atA];
            int b = words[atB];
            int c = words[atC];
            int d = words[atD];
            a += b;
            d = (d ^ a) << 16 | (d ^ a) >>> 16;
            c += d;
            b = (b ^ c) << 12 | (b ^ c) >>> 20;
            a += b;
            d = (d ^ a) << 8 | (d ^ a) >>> 24;
            c += d;
            b = (b ^ c) << 7 | (b ^ c) >>> 25;
            words[atA] = a;
            words[atB] = b;
            words[atC] = c;
            words[atD] = d;
        }
    }

    /** THE TAG; numbers modulo 2^130 - 5 are five limbs. */
    private static final class Tagger {
        static final int SIZE = 16;
        private static final int LIMBS = 5;
        private static final int TOP = 4;
        /** 2^130 modulo 2^130 - 5. */
        private static final long OVER = 5;

        final int[] bytes = new int[SIZE];
        private final int[] piece = new int[SIZE + 1];
        private final long[] r = new long[LIMBS];
        private final long[] q = new long[LIMBS];
        private final long[] added = new long[LIMBS];

        /** The tag of the bytes from .. to - 1 of a row; the key is the first 32 bytes of its row. */
        void make(int[] row, int from, int to, int[] key) {
            readFactor(key);
            Arrays.fill(q, 0);
            for (int at = from; at < to; at += SIZE) {
                addPiece(row, at, Math.min(SIZE, to - at));
                multiplyByFactor();
            }
            settle();
            Limbs.write(q, bytes, SIZE);
            int carry = 0;
            for (int i = 0; i < SIZE; i++) {
                int both = bytes[i] + key[SIZE + i] + carry;
                bytes[i] = both & 255;
                carry = both >> 8;
            }
        }

        private void readFactor(int[] key) {
            System.arraycopy(key, 0, piece, 0, SIZE);
            for (int i = 3; i < SIZE; i += 4) {
                piece[i] &= 15;
            }
            for (int i = 4; i < SIZE; i += 4) {
                piece[i] &= 252;
            }
            Limbs.read(piece, 0, SIZE, r);
        }

        private void addPiece(int[] row, int at, int count) {
            Arrays.fill(piece, 0);
            System.arraycopy(row, at, piece, 0, count);
            piece[count] = 1;
            Limbs.read(piece, 0, SIZE + 1, added);
            for (int i = 0; i < LIMBS; i++) {
                q[i] += added[i];
            }
        }

        private void multiplyByFactor() {
            for (int i = 0; i < LIMBS; i++) {
                long sum = 0;
                for (int j = 0; j < LIMBS; j++) {
                    sum += j <= i ? q[j] * r[i - j] : q[j] * r[LIMBS + i - j] * OVER;
                }
                added[i] = sum;
            }
            System.arraycopy(added, 0, q, 0, LIMBS);
            carry();
        }

        /** Leaves 26 bits in each limb but the first, which may have some more. */
        private void carry() {
            for (int i = 0; i < TOP; i++) {
                q[i + 1] += q[i] >> Limbs.BITS;
                q[i] &= Limbs.MASK;
            }
            q[0] += OVER * (q[TOP] >> Limbs.BITS);
            q[TOP] &= Limbs.MASK;
        }

        /** Takes the modulus away where q is not below it: then 5 more has the bit 130. */
        private void settle() {
            long over = OVER;
            for (int i = 0; i < LIMBS; i++) {
                over = (q[i] + over) >> Limbs.BITS;
            }
            q[0] += OVER * over;
            for (int i = 0; i < TOP; i++) {
                q[i + 1] += q[i] >> Limbs.BITS;
                q[i] &= Limbs.MASK;
            }
            q[TOP] &= Limbs.MASK;
        }
    }

    /** Makes packets of payloads, and payloads of packets. */
    private static final class Sealer {
        private static final int HEAD_SIZE = 4;
        private static final int LEAST_ZEROS = 4;
        private static final int UNIT = 8;
        private static final int LARGEST = 228;

        final Streamer streamer = new Streamer();
        final Tagger tagger = new Tagger();
        private final Row plain = new Row(LARGEST);

        void close(Row payload, Keys keys, int sequence, Row packet) {
            int zeros = zerosBehind(payload.size, keys.made);
            packet.clear();
            packet.putBig(1 + payload.size + zeros);
            packet.put(zeros);
            packet.putAll(payload.bytes, 0, payload.size);
            for (int i = 0; i < zeros; i++) {
                packet.put(0);
            }
            if (keys.made) {
                hide(packet, keys, sequence);
                streamer.make(keys.body, sequence, 0);
                tagger.make(packet.bytes, 0, packet.size, streamer.bytes);
                packet.putAll(tagger.bytes, 0, Tagger.SIZE);
            }
        }

        /** False, when the packet is broken. */
        boolean open(Row packet, Keys keys, int sequence, Row payload) {
            plain.clear();
            plain.putAll(packet.bytes, 0, packet.size);
            if (keys.made) {
                int tagAt = packet.size - Tagger.SIZE;
                if (tagAt < HEAD_SIZE) {
                    return false;
                }
                streamer.make(keys.body, sequence, 0);
                tagger.make(packet.bytes, 0, tagAt, streamer.bytes);
                if (packet.differsAt(tagAt, tagger.bytes)) {
                    return false;
                }
                plain.size = tagAt;
                hide(plain, keys, sequence);
            }
            return readPlain(keys.made, payload);
        }

        private boolean readPlain(boolean sealed, Row payload) {
            if (plain.size <= HEAD_SIZE || plain.bigAt(0) != plain.size - HEAD_SIZE) {
                return false;
            }
            int zeros = plain.bytes[HEAD_SIZE];
            int count = plain.size - HEAD_SIZE - 1 - zeros;
            if (count < 1 || count > MOST_PAYLOAD || zeros != zerosBehind(count, sealed)) {
                return false;
            }
            for (int i = plain.size - zeros; i < plain.size; i++) {
                if (plain.bytes[i] != 0) {
                    return false;
                }
            }
            payload.clear();
            payload.putAll(plain.bytes, HEAD_SIZE + 1, count);
            return true;
        }

        private static int zerosBehind(int payloadSize, boolean sealed) {
            int least = 1 + payloadSize + LEAST_ZEROS + (sealed ? 0 : HEAD_SIZE);
            return LEAST_ZEROS + (UNIT - least % UNIT) % UNIT;
        }

        /** Done twice it shows again what it hid. */
        private void hide(Row row, Keys keys, int sequence) {
            streamer.make(keys.head, sequence, 0);
            for (int i = 0; i < HEAD_SIZE; i++) {
                row.bytes[i] ^= streamer.bytes[i];
            }
            for (int i = HEAD_SIZE; i < row.size; i++) {
                int behind = i - HEAD_SIZE;
                if (behind % Streamer.SIZE == 0) {
                    streamer.make(keys.body, sequence, 1 + behind / Streamer.SIZE);
                }
                row.bytes[i] ^= streamer.bytes[behind % Streamer.SIZE];
            }
        }
    }

    /** Keys of one way of the wire. */
    private static final class Keys {
        final int[] head = new int[KEY];
        final int[] body = new int[KEY];
        boolean made;

        void copyOf(Keys other) {
            System.arraycopy(other.head, 0, head, 0, KEY);
            System.arraycopy(other.body, 0, body, 0, KEY);
            made = other.made;
        }
    }

    /** What an end knows of the exchange since its last one was over. */
    private static final class Exchange {
        final int[] ownInit = new int[INIT_SIZE];
        final int[] otherInit = new int[INIT_SIZE];
        final int[] secret = new int[KEY];
        final int[] publicRow = new int[KEY];
        final Keys nextComing = new Keys();
        boolean sentInit;
        boolean gotInit;
        /** The client has sent REQUEST, or the server got it. */
        boolean requested;
        boolean replied;
        boolean sentNew;

        void forget() {
            sentInit = false;
            gotInit = false;
            requested = false;
            replied = false;
            sentNew = false;
        }
    }

    /** The client or the server, with the wire that leads to it. */
    private static final class End {
        final int[] secret = new int[KEY];
        final int[] cookie = new int[COOKIE];
        final int[] session = new int[KEY];
        final Row got = new Row(MOST_GOT);
        final Wire wire = new Wire();
        final Keys sending = new Keys();
        final Keys coming = new Keys();
        final Exchange exchange = new Exchange();
        boolean lives = true;
        boolean hasSession;
        int sent;
        int came;
        int over;
        int lastUnknown = -1;

        void finishExchange() {
            coming.copyOf(exchange.nextComing);
            exchange.forget();
            over++;
        }
    }

    /** The packets to an end, in a ring of rows. */
    private static final class Wire {
        private final Row[] rows = new Row[MOST_ON_WIRE];
        private int first;
        int count;

        Wire() {
            for (int i = 0; i < MOST_ON_WIRE; i++) {
                rows[i] = new Row(Sealer.LARGEST);
            }
        }

        Row at(int k) {
            return rows[(first + k) % MOST_ON_WIRE];
        }

        /** The row for one more packet: there must be less than 12. */
        Row append() {
            count++;
            return at(count - 1);
        }

        /** The row of the first packet, which stays as it is until 12 more came: there must be one. */
        Row removeFirst() {
            Row row = rows[first];
            first = (first + 1) % MOST_ON_WIRE;
            count--;
            return row;
        }
    }
}
