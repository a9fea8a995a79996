import java.util.function.Consumer;

/** Ends that ended, and ends that must send when there are 12 packets to the other one already. */
final class EndedEdgesTest {
    private static final Check CHECK = new Check();

    public static void main(String[] args) {
        sendsNothingMore();
        whatComesIsGone();
        lostBySend();
        lostByBegin();
        lostAtInit();
        lostAtRequest();
        lostAtReply();
        lostUnknown();
        lostEnd();
        endComesToAFullWire();
        roomAgain();
        CHECK.close();
    }

    private static void fill(SealedWire x, int from, int packets) {
        while (x.about(1 - from, 5) < packets) {
            Hands.send(x, from, Hands.bytes(2));
        }
    }

    /** Every way in which an end can end; the number of the end that ended. */
    private static int end(SealedWire x, int way) {
        switch (way) {
            case 0:
                Hands.send(x, 0, Hands.bytes(1));
                return 0;
            case 1:
                Hands.send(x, 1, Hands.filled(200, 1));
                return 1;
            case 2:
                Hands.send(x, 0, Hands.bytes(1));
                x.come(1);
                return 1;
            case 3:
                Hands.send(x, 1, Hands.bytes(2));
                x.damage(0, 0, 0, 1);
                x.come(0);
                return 0;
            case 4:
                Hands.disguised(x, 0, Hands.bytes(21));
                x.come(1);
                return 1;
            case 5:
                fill(x, 0, 12);
                Hands.send(x, 0, Hands.bytes(2));
                return 0;
            case 6:
                fill(x, 1, 12);
                x.begin(1);
                return 1;
            default:
                x.begin(0);
                x.run(3);
                x.damage(0, 0, 80, 1);
                x.come(0);
                return 0;
        }
    }

    private static void sendsNothingMore() {
        CHECK.of("An end that ended sends nothing more");
        for (int way = 0; way < 8; way++) {
            SealedWire x = Hands.ready();
            int ended = end(x, way);
            CHECK.due("way " + way + ": it ended", x.about(ended, 0), 0);
            int sent = x.about(ended, 1);
            CHECK.refuses("begin", IllegalStateException.class, () -> x.begin(ended));
            for (int message : new int[] {1, 2, 3, 94, 77}) {
                Hands.type(x, Hands.bytes(message));
                CHECK.refuses("send of " + message, IllegalStateException.class, () -> x.send(ended));
            }
            if (x.about(1 - ended, 0) == 1) {
                int before = x.about(ended, 5);
                fill(x, 1 - ended, before + 1);
                Hands.send(x, 1 - ended, Hands.bytes(2));
            }
            while (x.about(ended, 5) > 0) {
                CHECK.due("way " + way + ": what comes is answered by none", x.come(ended), -4);
            }
            CHECK.due("way " + way + ": nothing was sent", x.about(ended, 1), sent);
            CHECK.due("way " + way + ": it has still ended", x.about(ended, 0), 0);
        }
    }

    private static void whatComesIsGone() {
        CHECK.of("what comes to it is gone (and not counted)");
        for (int way = 0; way < 8; way++) {
            SealedWire x = Hands.ready();
            int ended = end(x, way);
            if (x.about(1 - ended, 0) == 0) {
                continue;
            }
            Hands.type(x, Hands.bytes(2));
            x.send(1 - ended);
            int packets = x.about(ended, 5);
            String before = Hands.about(x, ended);
            CHECK.due("way " + way + ": come", x.come(ended), -4);
            CHECK.due("way " + way + ": gone", x.about(ended, 5), packets - 1);
            for (int what : new int[] {0, 1, 2, 3, 4, 6, 7, 8}) {
                CHECK.due("way " + way + ": about " + what, x.about(ended, what),
                        Integer.parseInt(before.split(" ")[what]));
            }
        }
        SealedWire x = new SealedWire();
        Hands.send(x, 1, Hands.bytes(94, 1));
        Hands.send(x, 1, Hands.bytes(3, 0, 0, 0, 9));
        Hands.send(x, 1, Hands.bytes(77));
        x.begin(1);
        Hands.send(x, 0, Hands.bytes(1));
        for (int i = 0; i < 4; i++) {
            CHECK.due("DATA, UNKNOWN, another, INIT", x.come(0), -4);
        }
        CHECK.due("none of them counts", Hands.about(x, 0), "0 1 0 0 0 0 0 0 -1");
        CHECK.due("then there is none", x.come(0), -1);
    }

    /** An act that sends so many packets: once with room for all, once with room for one less. */
    private static void lost(String what, int from, int packets, Consumer<SealedWire> before, Consumer<SealedWire> act) {
        SealedWire last = Hands.ready();
        before.accept(last);
        fill(last, from, 12 - packets);
        act.accept(last);
        CHECK.due(what + ": the last that has room", last.about(1 - from, 5), 12);
        SealedWire next = Hands.ready();
        before.accept(next);
        fill(next, from, 13 - packets);
        int sent = next.about(from, 1);
        act.accept(next);
        CHECK.due(what + ": one less has room", next.about(1 - from, 5), 12);
        CHECK.due(what + ": the lost one is not counted", next.about(from, 1), sent + packets - 1);
        CHECK.due(what + ": it ends", next.about(from, 0), 0);
    }

    private static void lostBySend() {
        CHECK.of("When an end must send and there are 12 packets to the other one already: the packet is lost, and it ends");
        for (int end = 0; end < 2; end++) {
            int from = end;
            for (int message : new int[] {2, 3, 77, 94}) {
                lost("send " + message, from, 1, x -> { }, x -> Hands.send(x, from, Hands.bytes(message)));
                SealedWire x = new SealedWire();
                fill(x, from, 11);
                Hands.send(x, from, Hands.bytes(message));
                CHECK.due("with 11 it lives", Hands.about(x, from), "1 12 0 0 0 0 0 0 -1");
                Hands.send(x, from, Hands.bytes(message));
                CHECK.due("with 12 it ends", Hands.about(x, from), "0 12 0 0 0 0 0 0 -1");
                CHECK.due("END is not sent", x.packet(1 - from, 11, 5), message);
            }
        }
    }

    private static void lostByBegin() {
        CHECK.of("(an end begins) the packet is lost, and it ends (END is not sent); it is not counted");
        for (int end = 0; end < 2; end++) {
            int from = end;
            lost("begin", from, 1, x -> { }, x -> x.begin(from));
            SealedWire x = new SealedWire();
            fill(x, from, 11);
            x.begin(from);
            CHECK.due("with 11 it lives", Hands.about(x, from), "1 12 0 0 0 0 1 0 -1");
            CHECK.due("INIT is the twelfth", x.packet(1 - from, 11, 5), 20);
            SealedWire y = new SealedWire();
            fill(y, from, 12);
            y.begin(from);
            CHECK.due("with 12 it ends", y.about(from, 0), 0);
            CHECK.due("the twelfth is as it was", y.packet(1 - from, 11, 5), 2);
            CHECK.refuses("it can't begin again", IllegalStateException.class, () -> y.begin(from));
        }
    }

    private static void lostAtInit() {
        CHECK.of("(INIT comes) When an end must send and there are 12 packets to the other one already");
        lost("INIT of the server", 1, 1, x -> x.begin(0), x -> x.come(1));
        lost("INIT and REQUEST of the client", 0, 2, x -> x.begin(1), x -> x.come(0));
        lost("REQUEST of the client", 0, 1, x -> {
            x.begin(0);
            x.begin(1);
        }, x -> x.come(0));
        SealedWire both = Hands.ready();
        both.begin(1);
        fill(both, 0, 12);
        CHECK.due("INIT comes", both.come(0), 20);
        CHECK.due("neither INIT nor REQUEST has room", both.about(0, 1), 12);
        CHECK.due("it ended", both.about(0, 0), 0);
        CHECK.due("it got INIT", both.about(0, 7), 1);
        SealedWire one = Hands.ready();
        one.begin(1);
        fill(one, 0, 11);
        CHECK.due("INIT comes", one.come(0), 20);
        CHECK.due("INIT has room, REQUEST has not", Hands.about(one, 0), "0 12 1 0 0 0 1 1 -1");
        CHECK.due("INIT is the last", one.packet(1, 11, 5), 20);
        SealedWire two = Hands.ready();
        two.begin(1);
        fill(two, 0, 10);
        CHECK.due("INIT comes", two.come(0), 20);
        CHECK.due("both have room", Hands.about(two, 0), "1 12 1 0 0 0 1 1 -1");
    }

    private static void lostAtRequest() {
        CHECK.of("(What it had to do besides, as to make keys and its SESSION, is done, but it sends nothing.)");
        String h = Hands.hex(new Due().h);
        lost("REPLY and NEW", 1, 2, x -> {
            x.begin(0);
            x.run(2);
        }, x -> x.come(1));
        int[] packets = {10, 11, 12};
        int[] lives = {1, 0, 0};
        int[] last = {21, 31, 2};
        for (int i = 0; i < 3; i++) {
            SealedWire x = Hands.beforeRequest(packets[i]);
            CHECK.due("REQUEST", x.come(1), 30);
            CHECK.due(packets[i] + " before: it lives", x.about(1, 0), lives[i]);
            CHECK.due(packets[i] + " before: the last", x.packet(0, 11, 5), last[i]);
            CHECK.due(packets[i] + " before: its session", Hands.session(x, 1), h);
            CHECK.due(packets[i] + " before: twelve", x.about(0, 5), 12);
        }
        SealedWire x = Hands.beforeRequest(11);
        x.come(1);
        x.run(24);
        CHECK.due("the client has REPLY, and goes on", x.about(0, 0), 1);
        CHECK.due("the client's session", Hands.session(x, 0), h);
        CHECK.due("but NEW never comes", x.about(0, 4) + x.about(1, 4), 0);
    }

    private static void lostAtReply() {
        CHECK.of("(REPLY comes) What it had to do besides is done, but it sends nothing");
        SealedWire eleven = Hands.atReply();
        fill(eleven, 0, 11);
        CHECK.due("REPLY", eleven.come(0), 31);
        CHECK.due("NEW has room", Hands.about(eleven, 0), "1 14 2 0 0 1 1 1 -1");
        CHECK.due("NEW is the last", eleven.packet(1, 11, 5), 21);
        SealedWire twelve = Hands.atReply();
        fill(twelve, 0, 12);
        CHECK.due("REPLY", twelve.come(0), 31);
        CHECK.due("NEW has none", Hands.about(twelve, 0), "0 14 2 0 0 1 1 1 -1");
        CHECK.due("its session is made", Hands.session(twelve, 0), Hands.hex(new Due().h));
        SealedWire refused = Hands.atReply();
        fill(refused, 0, 11);
        refused.damage(0, 0, 80, 1);
        CHECK.due("REPLY without proof", refused.come(0), 31);
        CHECK.due("END has room", Hands.about(refused, 0), "0 14 2 0 0 1 1 1 -1");
        CHECK.due("END is the last", refused.packet(1, 11, 5), 1);
        SealedWire lost = Hands.atReply();
        fill(lost, 0, 12);
        lost.damage(0, 0, 80, 1);
        CHECK.due("REPLY without proof", lost.come(0), 31);
        CHECK.due("END has none", Hands.about(lost, 0), "0 14 2 0 0 1 1 1 -1");
        CHECK.due("END is not sent", lost.packet(1, 11, 5), 2);
        CHECK.refuses("no session", IllegalStateException.class, () -> lost.session(0, 0));
    }

    private static void lostUnknown() {
        CHECK.of("(a message that is not known comes) the packet is lost, and it ends");
        for (int end = 0; end < 2; end++) {
            int at = end;
            lost("UNKNOWN", at, 1, x -> Hands.send(x, 1 - at, Hands.bytes(77)), x -> x.come(at));
            SealedWire x = new SealedWire();
            Hands.send(x, 1 - at, Hands.bytes(77));
            fill(x, at, 12);
            CHECK.due("come answers the message", x.come(at), 77);
            CHECK.due("it ended", Hands.about(x, at), "0 12 1 0 0 0 0 0 -1");
        }
    }

    private static void lostEnd() {
        CHECK.of("END is not sent");
        for (int end = 0; end < 2; end++) {
            for (int packets = 11; packets <= 12; packets++) {
                SealedWire broken = new SealedWire();
                Hands.send(broken, 1 - end, Hands.bytes(2));
                broken.damage(end, 0, 3, 1);
                fill(broken, end, packets);
                CHECK.due("broken", broken.come(end), -2);
                CHECK.due("it ended", Hands.about(broken, end), "0 12 1 0 0 0 0 0 -1");
                CHECK.due("the last", broken.packet(1 - end, 11, 5), packets == 11 ? 1 : 2);
                SealedWire misplaced = new SealedWire();
                Hands.disguised(misplaced, 1 - end, Hands.bytes(21));
                fill(misplaced, end, packets);
                CHECK.due("not in its place", misplaced.come(end), -3);
                CHECK.due("it ended", Hands.about(misplaced, end), "0 12 1 0 0 0 0 0 -1");
                CHECK.due("the last", misplaced.packet(1 - end, 11, 5), packets == 11 ? 1 : 2);
                SealedWire sent = new SealedWire();
                fill(sent, end, packets);
                Hands.send(sent, end, Hands.bytes(1));
                CHECK.due("END by send", Hands.about(sent, end), "0 12 0 0 0 0 0 0 -1");
                CHECK.due("the last", sent.packet(1 - end, 11, 5), packets == 11 ? 1 : 2);
            }
        }
    }

    private static void endComesToAFullWire() {
        CHECK.of("END: it ends (sends nothing; it may have any bytes)");
        for (int end = 0; end < 2; end++) {
            for (int size : new int[] {1, 2, 200}) {
                SealedWire x = new SealedWire();
                Hands.send(x, 1 - end, Hands.filled(size, 1));
                fill(x, end, 11);
                CHECK.due("END", x.come(end), 1);
                CHECK.due("it ended, sending nothing", Hands.about(x, end), "0 11 1 0 0 0 0 0 -1");
            }
        }
    }

    private static void roomAgain() {
        CHECK.of("there are 12 packets to the other one already");
        for (int end = 0; end < 2; end++) {
            SealedWire x = new SealedWire();
            fill(x, end, 12);
            x.come(1 - end);
            Hands.send(x, end, Hands.bytes(2));
            CHECK.due("one came, so one has room", Hands.about(x, end), "1 13 0 0 0 0 0 0 -1");
            fill(x, 1 - end, 12);
            CHECK.due("twelve each way", Hands.about(x, 1 - end), "1 12 1 0 0 12 0 0 -1");
        }
        SealedWire gone = new SealedWire();
        Hands.send(gone, 1, Hands.bytes(1));
        fill(gone, 0, 12);
        CHECK.due("packets to an end that ended fill the wire, too", gone.about(1, 5), 12);
        Hands.send(gone, 0, Hands.bytes(94));
        CHECK.due("so the thirteenth is lost", Hands.about(gone, 0), "0 12 0 0 0 1 0 0 -1");
    }
}
