import java.util.Arrays;

/** Exchanges, keys, proofs and sessions: what promises 3, 9 to 12 and 17 say of them. */
final class ExchangeTest {
    private static final Check CHECK = new Check();

    public static void main(String[] args) {
        stepByStep();
        serverBegins();
        bothBegin();
        underKeys();
        brokenUnderKeys();
        keysTurnAtNew();
        again();
        untrusted();
        wrongProof();
        changedOnTheWay();
        replyTwice();
        replyByItsBytesAlone();
        secretsAreTakenOnce();
        cookiesAreThoseSent();
        fullWireAtTheServer();
        fullWireAtTheClient();
        CHECK.close();
    }

    private static String plain(byte[]... rows) {
        return Hands.hex(Model.sealedPacket(Model.join(rows), null, 0));
    }

    private static void stepByStep() {
        Due due = new Due();
        CHECK.isTrue("both share", Arrays.equals(due.shared, Model.product(Hands.serverSecret(), due.clientPublic)));
        SealedWire x = Hands.ready();
        x.begin(0);
        CHECK.due("INIT to the server", x.come(1), 20);
        CHECK.due("INIT of the server", Hands.packet(x, 0, 0), plain(Hands.bytes(20), Hands.counted(8, 80)));
        CHECK.due("no more of it", x.about(0, 5), 1);
        CHECK.due("INIT to the client", x.come(0), 20);
        CHECK.due("REQUEST", Hands.packet(x, 1, 0), plain(Hands.bytes(30), due.clientPublic));
        CHECK.due("REQUEST comes", x.come(1), 30);
        CHECK.due("REPLY", Hands.packet(x, 0, 0), plain(due.reply()));
        CHECK.due("NEW goes without keys", Hands.packet(x, 0, 1), plain(Hands.bytes(21)));
        CHECK.due("the server's session", Hands.session(x, 1), Hands.hex(due.h));
        CHECK.refuses("the client has none yet", IllegalStateException.class, () -> x.session(0, 0));
        CHECK.due("about the server", Hands.about(x, 1), "1 3 2 0 0 0 1 1 -1");
        CHECK.due("REPLY comes", x.come(0), 31);
        CHECK.due("NEW of the client", Hands.packet(x, 1, 0), plain(Hands.bytes(21)));
        CHECK.due("the client's session", Hands.session(x, 0), Hands.hex(due.h));
        CHECK.due("about the client", Hands.about(x, 0), "1 3 2 0 0 1 1 1 -1");
        CHECK.due("NEW to the client", x.come(0), 21);
        CHECK.due("over at the client", Hands.about(x, 0), "1 3 3 0 1 0 0 0 -1");
        CHECK.due("NEW to the server", x.come(1), 21);
        CHECK.due("over at the server", Hands.about(x, 1), "1 3 3 0 1 0 0 0 -1");
        for (int end = 0; end < 2; end++) {
            byte[] payload = Hands.bytes(94, 4, 5, 6);
            Hands.send(x, end, payload);
            CHECK.due("with keys", Hands.packet(x, 1 - end, 0),
                    Hands.hex(Model.sealedPacket(payload, due.keys(end), 3)));
            CHECK.due("it comes", x.come(1 - end), 94);
            CHECK.due("as it was", x.got(1 - end, 2), 6);
        }
    }

    private static void serverBegins() {
        SealedWire x = Hands.ready();
        x.begin(1);
        CHECK.due("six packets", x.run(50), 6);
        CHECK.due("over at the client", Hands.about(x, 0), "1 3 3 0 1 0 0 0 -1");
        CHECK.due("over at the server", Hands.about(x, 1), "1 3 3 0 1 0 0 0 -1");
        CHECK.due("the same session", Hands.session(x, 0), Hands.hex(new Due().h));
    }

    private static void bothBegin() {
        SealedWire x = Hands.ready();
        x.begin(1);
        x.begin(0);
        CHECK.due("packets", x.run(50), 6);
        CHECK.due("over at both", x.about(0, 4) + x.about(1, 4), 2);
        CHECK.due("the same session", Hands.session(x, 1), Hands.hex(new Due().h));
    }

    private static void underKeys() {
        Due due = new Due();
        SealedWire x = Hands.sealed();
        for (int size = 1; size <= 200; size++) {
            byte[] payload = Hands.counted(size, 2);
            int end = size % 2;
            int sequence = x.about(end, 1);
            Hands.send(x, end, payload);
            CHECK.due("a sealed packet of " + size, Hands.packet(x, 1 - end, 0),
                    Hands.hex(Model.sealedPacket(payload, due.keys(end), sequence)));
            CHECK.due("it comes", x.come(1 - end), 2);
        }
        Hands.send(x, 0, Hands.filled(200, 2));
        CHECK.due("the largest", x.packet(1, 0, -1), 228);
        Hands.send(x, 0, Hands.filled(1, 2));
        CHECK.due("the least", x.packet(1, 1, -1), 28);
        Hands.send(x, 0, Hands.filled(3, 2));
        CHECK.due("four zeros are enough", x.packet(1, 2, -1), 28);
        Hands.send(x, 0, Hands.filled(4, 2));
        CHECK.due("three are not", x.packet(1, 3, -1), 36);
        x.run(50);
        Hands.send(x, 1, Hands.bytes(200));
        CHECK.due("not known", x.come(0), 200);
        CHECK.due("UNKNOWN has keys, too", x.packet(1, 0, -1), 36);
        CHECK.due("UNKNOWN comes", x.come(1), 3);
        CHECK.due("with the sequence number", x.about(1, 8), x.about(0, 2) - 1);
    }

    private static void brokenUnderKeys() {
        for (int i = 0; i < 36; i++) {
            for (int bit = 0; bit < 8; bit++) {
                SealedWire x = Hands.sealed();
                Hands.send(x, 0, Hands.bytes(94, 1, 2, 3, 4));
                x.damage(1, 0, i, 1 << bit);
                CHECK.due("byte " + i + ", bit " + bit, x.come(1), -2);
                CHECK.due("END has keys", x.packet(0, 0, -1), 28);
                CHECK.due("END comes", x.come(0), 1);
                CHECK.due("both ended", x.about(0, 0) + x.about(1, 0), 0);
                CHECK.due("a broken one counts", x.about(1, 2), 4);
                CHECK.due("nothing was got", x.about(1, 3), 0);
            }
        }
        SealedWire x = Hands.sealed();
        Hands.send(x, 0, Hands.bytes(94, 1, 2, 3, 4));
        x.damage(1, 0, 30, 7);
        x.damage(1, 0, 30, 7);
        CHECK.due("damage undone", x.come(1), 94);
        forged();
    }

    /** Packets with a right tag that are still not just such rows. */
    private static void forged() {
        byte[][] keys = new Due().keys(0);
        byte[] payload = Hands.bytes(94, 1, 2, 3, 4);
        byte[] right = Model.sealedPacket(payload, keys, 3);
        int[][] changes = {{0, 0}, {3, 8}, {0, 128}, {4, 1}, {4, 2}, {4, 8}, {4, 255}, {10, 1}, {19, 128}, {6, 3}};
        for (int[] change : changes) {
            SealedWire x = Hands.sealed();
            Hands.send(x, 0, payload);
            byte[] hidden = Arrays.copyOf(right, right.length - 16);
            hidden[change[0]] ^= (byte) change[1];
            byte[] key = Arrays.copyOf(Model.streamOf(keys[1], 3, 0), 32);
            byte[] forged = Model.join(hidden, Model.tagOf(key, hidden));
            for (int i = 0; i < right.length; i++) {
                x.damage(1, 0, i, (right[i] ^ forged[i]) & 255);
            }
            // Eight zeros in place of ten are right for a payload with two zeros more.
            boolean whole = change[1] == 0 || change[0] == 6 || change[0] == 4 && change[1] == 2;
            CHECK.due("forged at " + change[0] + " by " + change[1], x.come(1), whole ? 94 : -2);
        }
    }

    private static void keysTurnAtNew() {
        Due due = new Due();
        SealedWire x = Hands.ready();
        x.begin(0);
        x.run(3);
        byte[] payload = Hands.bytes(94, 42);
        Hands.send(x, 1, payload);
        CHECK.due("behind NEW the server may send, with keys", Hands.packet(x, 0, 2),
                Hands.hex(Model.sealedPacket(payload, due.keys(1), 3)));
        Hands.send(x, 0, Hands.bytes(2, 5));
        CHECK.due("the client has none yet", Hands.packet(x, 1, 0), plain(Hands.bytes(2, 5)));
        CHECK.due("it comes to the server without keys", x.come(1), 2);
        CHECK.due("REPLY", x.come(0), 31);
        Hands.send(x, 0, payload);
        CHECK.due("now it has", Hands.packet(x, 1, 1), Hands.hex(Model.sealedPacket(payload, due.keys(0), 4)));
        CHECK.due("NEW", x.come(0), 21);
        CHECK.due("DATA behind it", x.come(0), 94);
        CHECK.due("NEW to the server", x.come(1), 21);
        CHECK.due("DATA behind that", x.come(1), 94);
        SealedWire y = Hands.ready();
        y.begin(0);
        y.run(3);
        Hands.send(y, 1, payload);
        y.come(0);
        y.damage(0, 0, 5, 21 ^ 2);
        CHECK.due("NEW made IGNORE", y.come(0), 2);
        CHECK.due("then what has keys is broken", y.come(0), -2);
        SealedWire z = Hands.ready();
        z.begin(0);
        z.run(3);
        Hands.send(z, 0, Hands.bytes(2));
        Hands.send(z, 0, Hands.bytes(2));
        z.damage(1, 0, 5, 21 ^ 2);
        CHECK.due("IGNORE made NEW", z.come(1), 21);
        CHECK.due("then what has none is broken", z.come(1), -2);
    }

    private static void again() {
        Due due = new Due();
        SealedWire x = Hands.sealed();
        byte[] newSecret = Hands.counted(32, 77);
        Hands.set(x, 0, newSecret);
        x.begin(1);
        CHECK.due("INIT has the first keys", Hands.packet(x, 0, 0),
                Hands.hex(Model.sealedPacket(Model.join(Hands.bytes(20), Hands.counted(8, 80)), due.keys(1), 3)));
        CHECK.due("six packets", x.run(50), 6);
        CHECK.due("two exchanges are over", x.about(0, 4) * 10 + x.about(1, 4), 22);
        CHECK.due("the session is the first still", Hands.session(x, 0) + Hands.session(x, 1),
                Hands.hex(due.h).repeat(2));
        byte[] shared = Model.product(newSecret, due.serverPublic);
        byte[] h = Model.digest(Hands.bytes(20), Hands.counted(8, 60), Hands.bytes(20), Hands.counted(8, 80),
                due.hostRow, Model.publicRow(newSecret), due.serverPublic, shared);
        byte[][] keys = {
            Model.digest(shared, h, Hands.bytes(65), due.h), Model.digest(shared, h, Hands.bytes(66), due.h)
        };
        Hands.send(x, 0, Hands.bytes(94, 9));
        CHECK.due("the keys are new, the numbers go on", Hands.packet(x, 1, 0),
                Hands.hex(Model.sealedPacket(Hands.bytes(94, 9), keys, 6)));
        for (int i = 0; i < 20; i++) {
            x.begin(i % 2);
            x.run(50);
            Hands.send(x, i % 2, Hands.bytes(94, i));
            x.run(50);
        }
        CHECK.due("as often as one asks", x.about(0, 4) * 100 + x.about(1, 4), 2222);
        CHECK.due("all was got", x.about(0, 3) + x.about(1, 3), 21);
    }

    private static void ended(String what, SealedWire x) {
        CHECK.due(what + ": come answers", x.come(0), 31);
        CHECK.due(what + ": the client ended", x.about(0, 0), 0);
        CHECK.due(what + ": with END, without keys", Hands.packet(x, 1, 0), plain(Hands.bytes(1)));
        CHECK.refuses(what + ": it has no session", IllegalStateException.class, () -> x.session(0, 0));
        CHECK.due(what + ": no exchange is over", x.about(0, 4), 0);
        CHECK.due(what + ": NEW is gone", x.come(0), -4);
        CHECK.due(what + ": END comes", x.come(1), 1);
    }

    private static void untrusted() {
        SealedWire x = Hands.atReply();
        byte[] other = Model.publicRow(Hands.hostSecret());
        other[31] ^= 1;
        Hands.set(x, 3, other);
        ended("another row is trusted", x);
        SealedWire y = Hands.atReply();
        Hands.set(y, 3, other);
        Hands.set(y, 3, Model.publicRow(Hands.hostSecret()));
        CHECK.due("the right one again", y.come(0), 31);
        CHECK.due("the client lives", y.about(0, 0), 1);
        SealedWire z = Hands.ready();
        Hands.set(z, 2, Hands.counted(32, 50));
        z.begin(0);
        z.run(3);
        ended("another host", z);
    }

    private static void wrongProof() {
        for (int i = 0; i < 97; i++) {
            SealedWire x = Hands.atReply();
            x.damage(0, 0, 5 + i, 128);
            if (i > 0) {
                ended("REPLY changed at " + i, x);
            } else {
                CHECK.due("REPLY made another message", x.come(0), 31 ^ 128);
            }
        }
    }

    private static void changedOnTheWay() {
        for (int i = 6; i < 14; i++) {
            SealedWire x = Hands.ready();
            x.begin(0);
            x.damage(1, 0, i, 1);
            x.run(3);
            ended("the client's cookie changed", x);
            SealedWire y = Hands.ready();
            y.begin(1);
            y.damage(0, 0, i, 1);
            y.run(3);
            ended("the server's cookie changed", y);
        }
        for (int i = 6; i < 38; i++) {
            SealedWire x = Hands.ready();
            x.begin(0);
            x.run(2);
            x.damage(1, 0, i, 2);
            x.come(1);
            ended("REQUEST changed", x);
        }
    }

    private static void replyTwice() {
        SealedWire x = Hands.beforeRequest(0);
        Hands.send(x, 1, Hands.filled(97, 2));
        CHECK.due("REQUEST", x.come(1), 30);
        Hands.rewrite(x, 0, 0, new Due().reply());
        CHECK.due("both are the same", Hands.packet(x, 0, 0), Hands.packet(x, 0, 1));
        CHECK.due("REPLY once", x.come(0), 31);
        CHECK.due("the client lives", x.about(0, 0), 1);
        CHECK.due("REPLY twice", x.come(0), -3);
        CHECK.due("END has the new keys", x.packet(1, 1, -1), 28);
    }

    private static void replyByItsBytesAlone() {
        Due due = new Due();
        SealedWire x = Hands.beforeRequest(0);
        Hands.send(x, 1, Hands.filled(97, 2));
        Hands.rewrite(x, 0, 0, due.reply());
        CHECK.due("REPLY before REQUEST came", x.come(0), 31);
        CHECK.due("the client's session", Hands.session(x, 0), Hands.hex(due.h));
        Hands.send(x, 0, Hands.bytes(94));
        CHECK.due("REQUEST, NEW, DATA", x.about(1, 5), 3);
        CHECK.due("and its keys", Hands.packet(x, 1, 2), Hands.hex(Model.sealedPacket(Hands.bytes(94), due.keys(0), 3)));
        CHECK.due("REQUEST", x.come(1), 30);
        CHECK.due("NEW", x.come(1), 21);
        CHECK.due("DATA", x.come(1), 94);
        CHECK.due("REPLY again", x.come(0), -3);
    }

    private static void secretsAreTakenOnce() {
        Due due = new Due();
        SealedWire x = Hands.ready();
        x.begin(0);
        x.run(2);
        Hands.set(x, 0, Hands.counted(32, 33));
        x.run(1);
        Hands.set(x, 1, Hands.counted(32, 44));
        Hands.set(x, 2, Hands.counted(32, 55));
        x.run(50);
        CHECK.due("over with the secrets that were taken", x.about(0, 4) + x.about(1, 4), 2);
        CHECK.due("the client's session", Hands.session(x, 0), Hands.hex(due.h));
        CHECK.due("the server's", Hands.session(x, 1), Hands.hex(due.h));
        x.begin(0);
        x.run(50);
        CHECK.due("the host's new secret is not trusted", x.about(0, 0), 0);
        SealedWire y = Hands.ready();
        y.begin(0);
        y.run(2);
        Hands.set(y, 1, Hands.counted(32, 44));
        y.run(50);
        CHECK.due("the server's is taken at REQUEST", y.about(0, 4) + y.about(1, 4), 2);
        CHECK.isTrue("so this session is another", !Hands.session(y, 1).equals(Hands.hex(due.h)));
        CHECK.due("but the same at both", Hands.session(y, 0), Hands.session(y, 1));
    }

    private static void cookiesAreThoseSent() {
        SealedWire x = Hands.ready();
        x.begin(0);
        Hands.set(x, 4, Hands.counted(8, 7));
        x.come(1);
        Hands.set(x, 5, Hands.counted(8, 8));
        x.run(50);
        CHECK.due("H is of the INITs that were sent", Hands.session(x, 0) + Hands.session(x, 1),
                Hands.hex(new Due().h).repeat(2));
    }

    private static void fullWireAtTheServer() {
        String h = Hands.hex(new Due().h);
        SealedWire x = Hands.beforeRequest(10);
        CHECK.due("REQUEST", x.come(1), 30);
        CHECK.due("REPLY and NEW have room", Hands.about(x, 1), "1 13 2 0 0 0 1 1 -1");
        SealedWire y = Hands.beforeRequest(11);
        CHECK.due("REQUEST", y.come(1), 30);
        CHECK.due("NEW is lost", Hands.about(y, 1), "0 13 2 0 0 0 1 1 -1");
        CHECK.due("the session is made", Hands.session(y, 1), h);
        CHECK.due("REPLY is the last", y.packet(0, 11, 5), 31);
        SealedWire z = Hands.beforeRequest(12);
        CHECK.due("REQUEST", z.come(1), 30);
        CHECK.due("REPLY is lost", Hands.about(z, 1), "0 13 2 0 0 0 1 1 -1");
        CHECK.due("the session is made all the same", Hands.session(z, 1), h);
        CHECK.due("twelve as before", z.packet(0, 11, 5), 2);
    }

    private static void fullWireAtTheClient() {
        SealedWire x = Hands.atReply();
        for (int i = 0; i < 12; i++) {
            Hands.send(x, 0, Hands.bytes(2));
        }
        CHECK.due("REPLY", x.come(0), 31);
        CHECK.due("NEW is lost", Hands.about(x, 0), "0 14 2 0 0 1 1 1 -1");
        CHECK.due("the session is made", Hands.session(x, 0), Hands.hex(new Due().h));
        SealedWire y = Hands.atReply();
        for (int i = 0; i < 12; i++) {
            Hands.send(y, 0, Hands.bytes(2));
        }
        y.damage(0, 0, 80, 1);
        CHECK.due("REPLY without proof", y.come(0), 31);
        CHECK.due("END is lost", Hands.about(y, 0), "0 14 2 0 0 1 1 1 -1");
        CHECK.refuses("no session is made", IllegalStateException.class, () -> y.session(0, 0));
    }
}
