/** Small helps to use an object in tests. */
final class Hands {
    static byte[] bytes(int... values) {
        byte[] row = new byte[values.length];
        for (int i = 0; i < values.length; i++) {
            row[i] = (byte) values[i];
        }
        return row;
    }

    static byte[] filled(int size, int value) {
        byte[] row = new byte[size];
        java.util.Arrays.fill(row, (byte) value);
        return row;
    }

    static byte[] counted(int size, int first) {
        byte[] row = new byte[size];
        for (int i = 0; i < size; i++) {
            row[i] = (byte) (first + i);
        }
        return row;
    }

    static byte[] hex(String text) {
        byte[] row = new byte[text.length() / 2];
        for (int i = 0; i < row.length; i++) {
            row[i] = (byte) Integer.parseInt(text.substring(2 * i, 2 * i + 2), 16);
        }
        return row;
    }

    static String hex(byte[] row) {
        StringBuilder text = new StringBuilder();
        for (byte b : row) {
            text.append(String.format("%02x", b & 255));
        }
        return text.toString();
    }

    static void type(SealedWire x, byte[]... rows) {
        byte[] row = Model.join(rows);
        for (int i = 0; i < row.length; i++) {
            if (!x.type(row[i], 1)) {
                throw new AssertionError("the tape is full");
            }
        }
    }

    static void set(SealedWire x, int what, byte[] row) {
        type(x, row);
        x.set(what);
    }

    static void send(SealedWire x, int end, byte[]... rows) {
        type(x, rows);
        x.send(end);
    }

    static String out(SealedWire x, int size) {
        byte[] row = new byte[size];
        for (int i = 0; i < size; i++) {
            row[i] = (byte) x.out(i);
        }
        return hex(row);
    }

    static String packet(SealedWire x, int end, int k) {
        byte[] row = new byte[x.packet(end, k, -1)];
        for (int i = 0; i < row.length; i++) {
            row[i] = (byte) x.packet(end, k, i);
        }
        return hex(row);
    }

    static String session(SealedWire x, int end) {
        byte[] row = new byte[32];
        for (int i = 0; i < row.length; i++) {
            row[i] = (byte) x.session(end, i);
        }
        return hex(row);
    }

    static String about(SealedWire x, int end) {
        StringBuilder text = new StringBuilder();
        for (int what = 0; what < 9; what++) {
            text.append(what == 0 ? "" : " ").append(x.about(end, what));
        }
        return text.toString();
    }

    /** An object whose ends know all that they need, and differ in all. */
    static SealedWire ready() {
        SealedWire x = new SealedWire();
        set(x, 0, clientSecret());
        set(x, 1, serverSecret());
        set(x, 2, hostSecret());
        set(x, 3, Model.publicRow(hostSecret()));
        set(x, 4, counted(8, 60));
        set(x, 5, counted(8, 80));
        return x;
    }

    static byte[] clientSecret() {
        return counted(32, 1);
    }

    static byte[] serverSecret() {
        return counted(32, 101);
    }

    static byte[] hostSecret() {
        return counted(32, 201);
    }

    /** One whose first exchange is over at both ends. */
    static SealedWire sealed() {
        SealedWire x = ready();
        x.begin(0);
        x.run(50);
        return x;
    }
}
