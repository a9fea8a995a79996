/** Small helps to use an object in tests. */
final class Hands {
    static byte[] bytes(int... values) {
        byte[] row = new byte[values.length];
        for (int i = 0; i < values.length; i++) {
            row[i] = (byte) values[i];
        }
        return row;
    }

    static byte[] filled(int size, int value) {
        byte[] row = new byte[size];
        java.util.Arrays.fill(row, (byte) value);
        return row;
    }

    static byte[] counted(int size, int first) {
        byte[] row = new byte[size];
        for (int i = 0; i < size; i++) {
            row[i] = (byte) (first + i);
        }
        return row;
    }

    static byte[] hex(String text) {
        byte[] row = new byte[text.length() / 2];
        for (int i = 0; i < row.length; i++) {
            row[i] = (byte) Integer.parseInt(text.substring(2 * i, 2 * i + 2), 16);
        }
        return row;
    }

    static String hex(byte[] row) {
        StringBuilder text = new StringBuilder();
        for (byte b : row) {
            text.append(String.format("%02x", b & 255));
        }
        return text.toString();
    }

    /** Eight bytes a call, for an object is used for 512 calls. */
    static void type(SealedWire x, byte[]... rows) {
        byte[] row = Model.join(rows);
        for (int at = 0; at < row.length; at += 8) {
            int count = Math.min(8, row.length - at);
            long word = 0;
            for (int i = 0; i < count; i++) {
                word |= (row[at + i] & 255L) << (8 * i);
            }
            if (!x.type(word, count)) {
                throw new AssertionError("the tape is full");
            }
        }
    }

    static void set(SealedWire x, int what, byte[] row) {
        type(x, row);
        x.set(what);
    }

    static void send(SealedWire x, int end, byte[]... rows) {
        type(x, rows);
        x.send(end);
    }

    static String out(SealedWire x, int size) {
        byte[] row = new byte[size];
        for (int i = 0; i < size; i++) {
            row[i] = (byte) x.out(i);
        }
        return hex(row);
    }

    static String packet(SealedWire x, int end, int k) {
        byte[] row = new byte[x.packet(end, k, -1)];
        for (int i = 0; i < row.length; i++) {
            row[i] = (byte) x.packet(end, k, i);
        }
        return hex(row);
    }

    static String session(SealedWire x, int end) {
        byte[] row = new byte[32];
        for (int i = 0; i < row.length; i++) {
            row[i] = (byte) x.session(end, i);
        }
        return hex(row);
    }

    static String about(SealedWire x, int end) {
        StringBuilder text = new StringBuilder();
        for (int what = 0; what < 9; what++) {
            text.append(what == 0 ? "" : " ").append(x.about(end, what));
        }
        return text.toString();
    }

    /** All that can be seen of an object without changing it. */
    static String seen(SealedWire x) {
        StringBuilder text = new StringBuilder();
        for (int end = 0; end < 2; end++) {
            text.append("about ").append(about(x, end));
            for (int k = 0; k < x.about(end, 5); k++) {
                text.append(" packet ").append(packet(x, end, k));
            }
            text.append(" got ");
            for (int i = 0; i < x.about(end, 3); i++) {
                text.append(x.got(end, i)).append(' ');
            }
            try {
                text.append("session ").append(session(x, end));
            } catch (IllegalStateException e) {
                text.append("none");
            }
        }
        return text.append(" out ").append(outSeen(x)).toString();
    }

    private static String outSeen(SealedWire x) {
        StringBuilder text = new StringBuilder();
        try {
            for (int i = 0; i <= 64; i++) {
                text.append(x.out(i)).append(' ');
            }
        } catch (IndexOutOfBoundsException e) {
            text.append("end");
        }
        return text.toString();
    }

    /** An object whose ends know all that they need, and differ in all. */
    static SealedWire ready() {
        SealedWire x = new SealedWire();
        set(x, 0, clientSecret());
        set(x, 1, serverSecret());
        set(x, 2, hostSecret());
        set(x, 3, Model.publicRow(hostSecret()));
        set(x, 4, counted(8, 60));
        set(x, 5, counted(8, 80));
        return x;
    }

    static byte[] clientSecret() {
        return counted(32, 1);
    }

    static byte[] serverSecret() {
        return counted(32, 101);
    }

    static byte[] hostSecret() {
        return counted(32, 201);
    }

    /** One whose first exchange is over at both ends. */
    static SealedWire sealed() {
        SealedWire x = ready();
        x.begin(0);
        x.run(50);
        return x;
    }

    static SealedWire atReply() {
        SealedWire x = ready();
        x.begin(0);
        x.run(3);
        return x;
    }

    /** So many packets to the client before the server gets REQUEST. */
    static SealedWire beforeRequest(int packets) {
        SealedWire x = ready();
        x.begin(0);
        x.run(2);
        for (int i = 0; i < packets; i++) {
            send(x, 1, bytes(2));
        }
        return x;
    }

    /** Makes another payload of as many bytes of a packet that goes without keys. */
    static void rewrite(SealedWire x, int end, int k, byte[] payload) {
        for (int i = 0; i < payload.length; i++) {
            x.damage(end, k, 5 + i, x.packet(end, k, 5 + i) ^ payload[i] & 255);
        }
    }

    /** A packet to an end, with a payload that send would refuse: without keys nobody sees the change. */
    static void disguised(SealedWire x, int from, byte[] payload) {
        int message = payload[0] & 255;
        byte[] sent = payload.clone();
        sent[0] = 2;
        send(x, from, sent);
        x.damage(1 - from, x.about(1 - from, 5) - 1, 5, 2 ^ message);
    }
}
