import java.util.NoSuchElementException;

/** CHANNELS, promises 14 to 18 and 22: opening, windows, data, requests and closing, at both ENDS. */
public final class ChannelsTest {
    private static final Class<NoSuchElementException> NO_SUCH = NoSuchElementException.class;
    private static final Class<IllegalArgumentException> ARGUMENT = IllegalArgumentException.class;
    private static final Class<IllegalStateException> STATE = IllegalStateException.class;

    public static void main(String[] args) {
        callsOfOpen();
        opensAtTheServer();
        opensAtTheClient();
        answersAtTheClient();
        clientsWindow();
        clientSends();
        clientCloses();
        requestsAtTheClient();
        execs();
        notThere();
        serversWindow();
        globalRequests();
        notOpen();
        sendsBeyond();
        greatestPiece();
        Check.close();
    }

    private static Msg opened(int recipient, int sender, long window, long packet) {
        return Msg.of(91).u32(recipient).u32(sender).u32(window).u32(packet);
    }

    /** A client with channel 0 there, whose number at the server is 9. */
    private static Peer server(long window, long packet) {
        Peer p = Peer.provenServer(Rig.ready());
        Check.due("open", p.rig.x.open(0), 0);
        Check.due("90", p.next(), Msg.of(90).str("session").u32(0).u32(4096).u32(1024).bytes());
        p.send(opened(0, 9, window, packet));
        return p;
    }

    /** A server with a session there, whose number at the client is 9. */
    private static Peer client(long window, long packet) {
        Peer p = Peer.provenClient(Rig.ready());
        p.send(Msg.of(90).str("session").u32(9).u32(window).u32(packet));
        Check.due("91", p.next(), opened(9, 0, 4096, 1024).bytes());
        return p;
    }

    private static void none(String what, Peer p) {
        byte[] b = p.next();
        Check.due(what, b == null ? "none" : Check.hex(b), "none");
    }

    private static void callsOfOpen() {
        Rig r = Rig.proven();
        r.tape("left over");
        Check.throwing("kind -1", ARGUMENT, () -> r.x.open(-1));
        Check.throwing("kind 65536", ARGUMENT, () -> r.x.open(65536));
        Check.due("the tape stays", r.x.count(0), 9);
        Check.due("a session", r.x.open(0), 0);
        Check.due("the tape is taken", r.x.count(0), 0);
        r.tape(new byte[256]);
        Check.throwing("a host of 256", ARGUMENT, () -> r.x.open(1));
        Check.due("a session does not mind", r.x.open(0), 1);
        r.tape(new byte[255]);
        Check.due("a host of 255", r.x.open(65535), 2);
        for (int i = 3; i < 16; i++) {
            Check.due("the next number", r.x.open(0), i);
        }
        Check.throwing("a seventeenth", STATE, () -> r.x.open(0));
        Check.throwing("a seventeenth that is no kind", ARGUMENT, () -> r.x.open(-1));
        Check.due("asked for", r.x.about(0, 9), 16);
        Check.due("none there", r.x.about(1, 9), 0);
        r.settle();
        Check.due("there", r.x.about(1, 9), 15);
        Check.due("refused", r.x.channel(2, 0), 2);
        Check.due("for no connection", r.x.channel(2, 1), 2);
        Check.due("others", r.x.channel(3, 0), 1);
        Check.due("the least that is free", r.x.open(0), 2);
        Check.due("asked for anew", r.x.channel(2, 0), 0);
        Check.due("without a reason", r.x.channel(2, 1), 0);
        Rig s = Rig.ready();
        s.x.start();
        Check.throwing("before proof", STATE, () -> s.x.open(0));
    }

    private static void opensAtTheServer() {
        Rig r = Rig.ready();
        r.x.port(7, true);
        r.x.set(1, 2, 300);
        r.x.set(1, 3, 20);
        Peer p = Peer.provenClient(r);
        p.send(Msg.of(90).str("x11").u32(3).u32(1).u32(2).raw(new byte[3]));
        Check.due("another type", p.next(), Msg.of(92).u32(3).u32(3).str("").str("").bytes());
        Msg tcp = Msg.of(90).str("direct-tcpip").u32(4).u32(1).u32(2);
        for (long port : new long[] {0, 6, 65536, 65543, 0xffffffffL}) {
            p.send(new Msg().raw(tcp.bytes()).str("h").u32(port).str("o").u32(1));
            Check.due("port " + port, p.next(), Msg.of(92).u32(4).u32(2).str("").str("").bytes());
        }
        p.send(new Msg().raw(tcp.bytes()).str("h").u32(7).str("o").u32(1));
        Check.due("port 7", p.next(), opened(4, 0, 300, 20).bytes());
        p.send(new Msg().raw(tcp.bytes()).str("h").u32(7).str("o").u32(1));
        Check.due("one at a time", p.next(), Msg.of(92).u32(4).u32(2).str("").str("").bytes());
        Check.due("connections", r.x.count(3), 1);
        for (int i = 1; i < 16; i++) {
            p.send(Msg.of(90).str("session").u32(0xfffffff0L + i).u32(1).u32(2));
            Check.due("session " + i, p.next(), opened(0xfffffff0 + i, i, 300, 20).bytes());
        }
        p.send(Msg.of(90).str("session").u32(3).u32(1).u32(2));
        Check.due("16 are there", p.next(), Msg.of(92).u32(3).u32(4).str("").str("").bytes());
        p.send(Msg.of(90).str("x11").u32(3).u32(1).u32(2));
        Check.due("whatever the type", p.next(), Msg.of(92).u32(3).u32(4).str("").str("").bytes());
        p.send(Msg.of(90).str("session").u32(3).u32(1).u32(2).u8(0));
        Check.due("90 with more", r.state(1), "2/2");
        Peer q = Peer.provenClient(Rig.ready());
        q.send(Msg.of(90).str("direct-tcpip").u32(3).u32(1).u32(2).str("h").u32(7));
        Check.due("90 cut off", q.rig.state(1), "2/2");
        for (int number : new int[] {91, 92}) {
            q = client(10, 10);
            q.send(Msg.of(number).u32(0).u32(0).u32(0).u32(0));
            Check.due(number + " at the server", q.rig.state(1), "2/2");
        }
    }

    private static void opensAtTheClient() {
        Peer p = Peer.provenServer(Rig.ready());
        p.send(Msg.of(90).str("session").u32(8).u32(1).u32(2).raw(new byte[5]));
        Check.due("only the client opens", p.next(), Msg.of(92).u32(8).u32(1).str("").str("").bytes());
        p.send(Msg.of(90).str("session").u32(8).u32(1));
        Check.due("90 cut off", p.rig.state(0), "2/2");
        p = Peer.provenServer(Rig.ready());
        Check.due("host and port", p.rig.tape("a.host").x.open(513), 0);
        Check.due("90", p.next(), Msg.of(90).str("direct-tcpip").u32(0).u32(4096).u32(1024).str("a.host").u32(513)
                .str("0.0.0.0").u32(0).bytes());
    }

    private static void answersAtTheClient() {
        Peer p = Peer.provenServer(Rig.ready());
        Rig r = p.rig;
        r.x.open(0);
        r.x.open(0);
        p.next();
        p.next();
        Check.due("windows ahead of 91", r.x.channel(0, 6) + "/" + r.x.channel(0, 7), "0/4096");
        r.write(0, false, "waits");
        Check.due("what waits", r.x.channel(0, 5), 5);
        p.send(Msg.of(92).u32(0).u32(77).str("why").str("en"));
        Check.due("refused", r.x.channel(0, 0) + "/" + r.x.channel(0, 1) + "/" + r.x.channel(0, 5), "2/77/0");
        Check.throwing("write to it", NO_SUCH, () -> r.x.write(0, false));
        Check.throwing("exec in it", NO_SUCH, () -> r.x.exec(0));
        Check.throwing("finish it", NO_SUCH, () -> r.x.finish(0, 1));
        Check.due("read of it", r.x.read(0, 0, 1), 0);
        p.send(opened(1, 0xffffffff, 0xffffffffL, 0xffffffffL));
        Check.due("there", r.x.channel(1, 0) + "/" + r.x.channel(1, 6), "1/-1");
        r.write(1, false, "data");
        Check.due("to the other's number", p.next(), Msg.of(94).u32(0xffffffffL).str("data").bytes());
        Check.due("of the window", r.x.channel(1, 6), -5);
        p.send(opened(1, 0, 1, 1));
        Check.due("91 twice", r.state(0), "2/2");
        int[][] wrong = {{91, 1}, {91, 16}, {91, -1}, {92, 3}};
        for (int[] w : wrong) {
            p = Peer.provenServer(Rig.ready());
            p.rig.x.open(0);
            p.send(w[0] == 91 ? opened(w[1], 0, 1, 1) : Msg.of(92).u32(w[1]).u32(1).str("").str(""));
            Check.due(w[0] + " for nothing", p.rig.state(0), "2/2");
        }
        p = Peer.provenServer(Rig.ready());
        p.rig.x.open(0);
        p.send(new Msg().raw(opened(0, 0, 1, 1).bytes()).u8(0));
        Check.due("91 with more", p.rig.state(0), "2/2");
    }

    private static void clientsWindow() {
        Peer p = server(100, 100);
        Rig r = p.rig;
        p.send(Msg.of(94).u32(0).str(new byte[1024]));
        p.send(Msg.of(95).u32(0).u32(1).str("error"));
        p.send(Msg.of(94).u32(0).str(""));
        Check.due("left", r.x.channel(0, 7), 4096 - 1029);
        Check.due("to be read", r.x.channel(0, 3) + "/" + r.x.channel(0, 4), "1024/5");
        p.send(Msg.of(94).u32(0).str(new byte[1019]));
        Check.due("just half is left", r.x.channel(0, 7), 2048);
        Check.due("read", r.x.read(0, 0, 7), 7L << 56);
        none("half is not below half", p);
        p.send(Msg.of(94).u32(0).str("z"));
        none("nothing was read", p);
        Check.due("ERROR text", r.x.read(0, 1, 2), (2L << 56) + 'e' * 256 + 'r');
        Check.due("93", p.next(), Msg.of(93).u32(9).u32(2049).bytes());
        Check.due("whole again", r.x.channel(0, 7), 4096);
        r.x.set(0, 2, 10000);
        Check.due("read one", r.x.read(0, 1, 1), (1L << 56) + 'r');
        Check.due("WINDOW as set now", p.next(), Msg.of(93).u32(9).u32(5904).bytes());
        Peer empty = server(100, 100);
        empty.rig.x.set(0, 2, 16384);
        empty.rig.x.read(0, 0, 7);
        empty.rig.x.read(0, 1, 7);
        none("nothing was read, nothing is looked at", empty);
        r.x.set(0, 2, 1);
        p.send(Msg.of(95).u32(0).u32(2).str("dropped"));
        none("much is left", p);
        Check.due("it uses the window", r.x.channel(0, 7), 9993);
        Check.due("and is not kept", r.x.channel(0, 4), 2);
        r.x.set(0, 2, 16384);
        p.send(Msg.of(95).u32(0).u32(2).str(new byte[1024]));
        none("more than half is left", p);
        p.send(Msg.of(95).u32(0).u32(0).str(new byte[1000]));
        Check.due("read at once", p.next(), Msg.of(93).u32(9).u32(16384 - 7969).bytes());
        p.send(Msg.of(94).u32(0).str(new byte[1025]));
        Check.due("above PACKET as told", r.state(0), "2/2");
        p = server(100, 100);
        p.rig.x.set(0, 2, 16384);
        for (int i = 0; i < 4; i++) {
            p.send(Msg.of(94).u32(0).str(new byte[1024]));
        }
        Check.due("none is left", p.rig.x.channel(0, 7), 0);
        p.send(Msg.of(94).u32(0).str(""));
        Check.due("nothing fits", p.rig.state(0), "1/0");
        p.send(Msg.of(95).u32(0).u32(1).str("x"));
        Check.due("above the window", p.rig.state(0), "2/2");
        Check.due("what came is read all the same", p.rig.read(0, 0).length, 4096);
        Check.throwing("kind 3", NO_SUCH, () -> r.x.read(0, 3, 9));
        Check.throwing("kind -1", NO_SUCH, () -> r.x.read(0, -1, 1));
        Check.throwing("no such channel", NO_SUCH, () -> r.x.read(1, 0, 0));
        Check.throwing("no such connection", NO_SUCH, () -> r.x.read(0, 2, 0));
        Check.throwing("0 bytes", ARGUMENT, () -> r.x.read(0, 0, 0));
        Check.throwing("8 bytes", ARGUMENT, () -> r.x.read(0, 0, 8));
        p = server(100, 100);
        p.send(Msg.of(94).u32(0).str(new byte[1000]));
        p.send(Msg.of(94).u32(0).str(new byte[1000]));
        p.send(Msg.of(94).u32(0).str(new byte[100]));
        p.send(Msg.of(96).u32(0));
        Check.due("no more comes", p.rig.x.channel(0, 8), 1);
        p.rig.x.read(0, 0, 1);
        none("no 93 behind 96", p);
        p.send(Msg.of(96).u32(0));
        Check.due("96 again", p.rig.state(0), "1/0");
        p.send(Msg.of(94).u32(0).str(""));
        Check.due("94 behind 96", p.rig.state(0), "2/2");
    }

    private static void clientSends() {
        Peer p = server(10, 4);
        Rig r = p.rig;
        Check.due("waits", r.write(0, false, "0123456789abcd"), 4);
        Check.due("piece", p.next(), Msg.of(94).u32(9).str("0123").bytes());
        Check.due("piece", p.next(), Msg.of(94).u32(9).str("4567").bytes());
        Check.due("rest of the window", p.next(), Msg.of(94).u32(9).str("89").bytes());
        none("no window", p);
        Check.due("window", r.x.channel(0, 6), 0);
        r.x.finish(0, 0);
        none("96 waits", p);
        p.send(Msg.of(93).u32(0).u32(3));
        Check.due("more window", p.next(), Msg.of(94).u32(9).str("abc").bytes());
        p.send(Msg.of(93).u32(0).u32(5));
        Check.due("the last", p.next(), Msg.of(94).u32(9).str("d").bytes());
        Check.due("96", p.next(), Msg.of(96).u32(9).bytes());
        Check.due("left", r.x.channel(0, 6) + "/" + r.x.channel(0, 5), "4/0");
        Check.throwing("write behind it", STATE, () -> r.x.write(0, false));
        Check.throwing("finish twice", STATE, () -> r.x.finish(0, 0));
        p.send(Msg.of(93).u32(0).u32(0xffffffffL - 4));
        Check.due("the greatest window", r.x.channel(0, 6), -1);
        p.send(Msg.of(93).u32(0).u32(1));
        Check.due("one more", r.state(0), "2/2");
        p = server(100, 0);
        Check.due("packets of 0", p.rig.write(0, false, "abc"), 3);
        none("none", p);
        Peer q = server(1 << 30, 40000);
        q.rig.x.end(0);
        Check.due("write of nothing", q.rig.x.write(0, false), 0);
        none("no 94", q);
        q.rig.x.rekey(0);
        q.theirInit = q.next();
        Check.throwing("16,385 bytes", STATE, () -> q.rig.tape(new byte[16385]).x.write(0, false));
        Check.due("the tape stays", q.rig.x.count(0), 16385);
        q.rig.x.end(16384);
        Check.due("what waits for keys counts as sent", q.rig.x.write(0, false), 0);
        Check.due("window is used", q.rig.x.channel(0, 6), (1 << 30) - 16384);
        Peer w = server(0, 40000);
        Check.due("16,000 wait", w.rig.tape(new byte[16000]).x.write(0, false), 16000);
        Check.throwing("385 more", STATE, () -> w.rig.tape(new byte[385]).x.write(0, false));
        Check.due("384 more", w.rig.tape(new byte[384]).x.write(0, false), 16384);
        w.rig.x.end(0);
        Check.due("and nothing", w.rig.x.write(0, false), 16384);
        w.send(Msg.of(93).u32(0).u32(20000));
        Check.due("all at once", w.next().length, 16384 + 9);
        Check.throwing("write to none", NO_SUCH, () -> w.rig.x.write(1, false));
        Check.throwing("write beyond", NO_SUCH, () -> w.rig.x.write(16, false));
        Check.throwing("write below", NO_SUCH, () -> w.rig.x.write(-1, false));
    }

    private static void clientCloses() {
        Peer p = server(4, 4);
        Rig r = p.rig;
        r.write(0, false, "0123456");
        r.x.finish(0, 0);
        p.next();
        r.x.finish(0, 1);
        Check.due("97 at once, what waits is dropped", p.next(), Msg.of(97).u32(9).bytes());
        Check.due("there till the other closes", r.x.channel(0, 0) + "/" + r.x.channel(0, 5), "1/0");
        Check.throwing("close twice", STATE, () -> r.x.finish(0, 1));
        Check.throwing("end it then", STATE, () -> r.x.finish(0, 0));
        Check.throwing("write then", STATE, () -> r.x.write(0, false));
        Check.throwing("exec then", STATE, () -> r.x.exec(0));
        for (int i = 0; i < 3; i++) {
            p.send(Msg.of(94).u32(0).str(new byte[1000]));
        }
        r.x.read(0, 0, 7);
        none("no 93 behind 97", p);
        p.send(Msg.of(98).u32(0).str("exit-status").u8(0).u32(5));
        p.send(Msg.of(97).u32(0));
        Check.due("gone", r.x.channel(0, 0) + "/" + r.x.channel(0, 2), "3/5");
        none("no second 97", p);
        Check.due("still to be read", r.x.channel(0, 3), 2993);
        Check.due("no more comes", r.x.channel(0, 8), 1);
        Check.throwing("finish what is gone", NO_SUCH, () -> r.x.finish(0, 1));
        Check.due("none there", r.x.about(0, 9), 0);
        p.send(Msg.of(97).u32(0));
        Check.due("97 for none", r.state(0), "2/2");

        p = Peer.provenServer(Rig.ready());
        p.rig.x.open(0);
        p.next();
        p.rig.write(0, false, "abc");
        p.rig.x.finish(0, 1);
        none("97 waits for 91", p);
        Check.due("asked for", p.rig.x.channel(0, 0), 0);
        p.send(opened(0, 5, 100, 100));
        Check.due("then it is sent", p.next(), Msg.of(97).u32(5).bytes());
        none("alone", p);
        p.send(Msg.of(97).u32(0));
        Check.due("gone", p.rig.x.channel(0, 0), 3);

        p = server(2, 100);
        p.rig.write(0, false, "abc");
        p.next();
        p.send(Msg.of(94).u32(0).str("kept"));
        p.send(Msg.of(97).u32(0));
        Check.due("97 is answered", p.next(), Msg.of(97).u32(9).bytes());
        Check.due("what waited is dropped", p.rig.x.channel(0, 0) + "/" + p.rig.x.channel(0, 5), "3/0");
        Check.due("kept", p.rig.text(0, 0), "kept");
        Check.throwing("no such how", NO_SUCH, () -> r.x.finish(0, 3));
        Check.throwing("no such how below", NO_SUCH, () -> r.x.finish(0, -1));
        Check.throwing("no such connection", NO_SUCH, () -> r.x.finish(0, 2));
    }

    private static void requestsAtTheClient() {
        Peer p = server(100, 100);
        Rig r = p.rig;
        r.exec(0, "echo a");
        Check.due("98", p.next(), Msg.of(98).u32(9).str("exec").u8(1).str("echo a").bytes());
        r.exec(0, "");
        p.next();
        p.send(Msg.of(100).u32(0));
        p.send(Msg.of(99).u32(0));
        Check.due("answers", r.x.channel(0, 9) + "/" + r.x.channel(0, 10), "1/1");
        Check.due("no status", r.x.channel(0, 2), -1);
        p.send(Msg.of(98).u32(0).str("exit-status").u8(1).u32(5));
        Check.due("an answer is wanted", p.next(), Msg.of(100).u32(9).bytes());
        Check.due("not kept", r.x.channel(0, 2), -1);
        p.send(Msg.of(98).u32(0).str("exit-signal").u8(0).str("KILL"));
        none("no answer is wanted", p);
        p.send(Msg.of(98).u32(0).str("exec").u8(7).str("x"));
        Check.due("wanted", p.next(), Msg.of(100).u32(9).bytes());
        p.send(Msg.of(98).u32(0).str("exit-status").u8(0).u32(0x01020304));
        Check.due("kept", r.x.channel(0, 2), 0x01020304);
        p.send(Msg.of(99).u32(0));
        Check.due("99 for nothing", r.state(0), "2/2");
        p = server(100, 100);
        p.send(Msg.of(98).u32(0).str("exit-status").u8(0).u32(1).u8(0));
        Check.due("98 with more", p.rig.state(0), "2/2");
        p = server(100, 100);
        p.send(Msg.of(98).u32(0).str("exit-status").u8(0).u8(1));
        Check.due("98 cut off", p.rig.state(0), "2/2");
    }

    private static void execs() {
        Rig r = Rig.proven();
        int c = r.x.open(0);
        Check.throwing("exec ahead of 91", STATE, () -> r.x.exec(c));
        r.settle();
        r.tape(new byte[1001]);
        Check.throwing("no such channel", NO_SUCH, () -> r.x.exec(1));
        Check.throwing("1,001 bytes", ARGUMENT, () -> r.x.exec(c));
        r.x.end(1000);
        r.x.exec(c);
        Check.due("the tape is taken", r.x.count(0), 0);
        r.settle();
        Check.due("unknown", r.text(c, 1), "unknown\n");
        int d = r.x.open(0);
        Check.due("its number is used again", d, c);
        Check.due("told of anew", r.x.channel(d, 2) + "/" + r.x.channel(d, 9), "-1/0");
        Check.due("with new windows", r.x.channel(d, 6) + "/" + r.x.channel(d, 7), "0/4096");
        r.settle();
        r.exec(d, "cat");
        r.exec(d, "echo x");
        r.settle();
        Check.due("one command each", r.x.channel(d, 9) + "/" + r.x.channel(d, 10), "1/1");
        r.x.port(5, true);
        int far = r.tape("h").x.open(5);
        r.settle();
        r.exec(far, "echo x");
        r.settle();
        Check.due("none where no session is", r.x.channel(far, 9) + "/" + r.x.channel(far, 10), "0/1");
        r.x.quit(0);
        Check.throwing("exec when closed", STATE, () -> r.x.exec(d));
        Peer p = client(100, 100);
        p.send(Msg.of(98).u32(0).str("exec").u8(0).str("cat"));
        none("no answer is wanted", p);
        p.send(Msg.of(98).u32(0).str("pty-req").u8(1).str("whatever").u8(1));
        Check.due("another request", p.next(), Msg.of(100).u32(9).bytes());
        p.send(Msg.of(98).u32(0).str("pty-req").u8(0));
        none("without an answer", p);
        p.send(Msg.of(98).u32(0).str("exec").u8(1).str("cat").u8(0));
        Check.due("98 with more", p.rig.state(1), "2/2");
    }

    private static void notThere() {
        Msg[] all = {
            Msg.of(93).u32(1).u32(1), Msg.of(94).u32(1).str(""), Msg.of(95).u32(1).u32(1).str(""), Msg.of(96).u32(1),
            Msg.of(97).u32(1), Msg.of(98).u32(1).str("x").u8(0), Msg.of(99).u32(1), Msg.of(100).u32(1),
            Msg.of(96).u32(16), Msg.of(96).u32(0xffffffffL), Msg.of(96).u32(0).u8(0), Msg.of(97).u32(0).u8(0),
            Msg.of(93).u32(0), Msg.of(94).u32(0).str("").u8(0), Msg.of(95).u32(0).str(""), Msg.of(81), Msg.of(82),
            Msg.of(99).u32(0), Msg.of(100).u32(0), Msg.of(96).u8(0),
        };
        for (int i = 0; i < all.length; i++) {
            Peer p = server(10, 10);
            p.rig.x.open(0);
            p.send(all[i]);
            Check.due("not there or not so, at the client, " + i, p.rig.state(0), "2/2");
            p = client(10, 10);
            p.send(all[i]);
            Check.due("not there or not so, at the server, " + i, p.rig.state(1), "2/2");
        }
        Peer p = client(10, 10);
        p.send(Msg.of(97).u32(0));
        Check.due("97", p.next(), Msg.of(97).u32(9).bytes());
        p.send(Msg.of(96).u32(0));
        Check.due("behind 97", p.rig.state(1), "2/2");
    }

    private static void serversWindow() {
        Rig r = Rig.ready();
        r.x.set(1, 2, 10);
        Peer p = Peer.provenClient(r);
        p.send(Msg.of(90).str("session").u32(9).u32(100).u32(100));
        p.next();
        p.send(Msg.of(94).u32(0).str("0123456"));
        none("kept till a command takes it", p);
        p.send(Msg.of(95).u32(0).u32(1).str("x"));
        Check.due("95 is read at once", p.next(), Msg.of(93).u32(9).u32(8).bytes());
        p.send(Msg.of(98).u32(0).str("exec").u8(1).str("echo hi"));
        Check.due("99", p.next(), Msg.of(99).u32(9).bytes());
        Check.due("94", p.next(), Msg.of(94).u32(9).str("hi\n").bytes());
        Check.due("96", p.next(), Msg.of(96).u32(9).bytes());
        Check.due("98", p.next(), Msg.of(98).u32(9).str("exit-status").u8(0).u32(0).bytes());
        Check.due("97", p.next(), Msg.of(97).u32(9).bytes());
        p.send(Msg.of(94).u32(0).str("0123456789"));
        none("no 93 behind 97", p);
        p.send(Msg.of(94).u32(0).str("x"));
        Check.due("the window is used all the same", r.state(1), "2/2");

        Rig s = Rig.ready();
        s.x.set(1, 2, 10);
        p = Peer.provenClient(s);
        p.send(Msg.of(90).str("session").u32(9).u32(2).u32(100));
        p.next();
        p.send(Msg.of(94).u32(0).str("0123456"));
        p.send(Msg.of(98).u32(0).str("exec").u8(0).str("size x y"));
        Check.due("dropped before all else", p.next(), Msg.of(93).u32(9).u32(7).bytes());
        Check.due("what fits", p.next(), Msg.of(95).u32(9).u32(1).str("us").bytes());
        p.send(Msg.of(94).u32(0).str("012345"));
        Check.due("dropped", p.next(), Msg.of(93).u32(9).u32(6).bytes());
        p.send(Msg.of(93).u32(0).u32(100));
        Check.due("the rest", p.next(), Msg.of(95).u32(9).u32(1).str("age\n").bytes());
        Check.due("96", p.next(), Msg.of(96).u32(9).bytes());
        Check.due("98", p.next(), Msg.of(98).u32(9).str("exit-status").u8(0).u32(2).bytes());
        Check.due("97", p.next(), Msg.of(97).u32(9).bytes());
        p.send(Msg.of(97).u32(0));
        Check.due("gone", s.x.about(1, 9), 0);

        Rig t = Rig.ready();
        t.x.set(1, 2, 10);
        p = Peer.provenClient(t);
        p.send(Msg.of(90).str("session").u32(9).u32(100).u32(100));
        p.next();
        p.send(Msg.of(98).u32(0).str("exec").u8(0).str("cat"));
        p.send(Msg.of(94).u32(0).str("0123456"));
        Check.due("94 first", p.next(), Msg.of(94).u32(9).str("0123456").bytes());
        Check.due("then 93", p.next(), Msg.of(93).u32(9).u32(7).bytes());
        p.send(Msg.of(94).u32(0).str("01234"));
        Check.due("94 alone", p.next(), Msg.of(94).u32(9).str("01234").bytes());
        none("half is left", p);
        p.send(Msg.of(94).u32(0).str("abc"));
        p.next();
        Check.due("93 for all", p.next(), Msg.of(93).u32(9).u32(8).bytes());
        p.send(Msg.of(97).u32(0));
        Check.due("closed before 96", p.next(), Msg.of(97).u32(9).bytes());
        none("that is all", p);
    }

    private static void globalRequests() {
        Peer p = client(10, 10);
        p.send(Msg.of(80).str("x").u8(9).u32(77));
        Check.due("82", p.next(), new byte[] {82});
        p.send(Msg.of(80).str("x").u8(0).u32(77));
        none("not wanted", p);
        p.send(Msg.of(80).str("x"));
        Check.due("80 cut off", p.rig.state(1), "2/2");
        p = server(10, 10);
        p.send(Msg.of(80).str("x").u8(1));
        Check.due("82 of the client", p.next(), new byte[] {82});
        p = Peer.client(Rig.ready());
        p.send(Msg.of(5).str("ssh-userauth"));
        p.next();
        p.send(Msg.of(80).str("x").u8(1));
        Check.due("80 before proof", p.rig.state(1), "2/2");
    }

    /** What calls do about channels of an END that is not OPEN. */
    private static void notOpen() {
        Rig r = Rig.proven();
        int c = r.x.open(0);
        int d = r.x.open(0);
        r.settle();
        r.x.quit(0);
        int left = r.x.about(1, 5);
        Check.due("it waits", r.write(c, false, "abc"), 3);
        r.x.finish(c, 0);
        r.x.finish(d, 1);
        Check.throwing("twice", STATE, () -> r.x.finish(d, 1));
        Check.due("nothing is sent", r.x.about(1, 5), left);
        Check.due("told of", r.x.channel(c, 0) + "/" + r.x.channel(c, 5), "1/3");
        Check.throwing("open", STATE, () -> r.x.open(0));
    }

    /** What does not fit on the wire is not sent, and still waits. */
    private static void sendsBeyond() {
        Rig r = Rig.proven();
        int c = r.x.open(0);
        r.settle();
        for (int left = 131072 - 100; left > 0; left -= 65000) {
            r.tape(new byte[Math.min(left, 65000)]).x.inject(1);
        }
        Check.due("the first piece goes, the second does not", r.tape(new byte[8]).x.write(c, false), 0);
        Check.due("open", r.state(0), "1/0");
        Check.due("waits", r.tape(new byte[8]).x.write(c, false), 8);
        Check.due("lost", r.state(0), "2/10");
        Check.due("window", r.x.channel(c, 6), 4088);
    }

    /** A greatest packet above 32,768 is as that. */
    private static void greatestPiece() {
        for (long greatest : new long[] {32767, 32768, 32769, 0xffffffffL}) {
            Rig r = Rig.ready();
            r.x.set(1, 2, 16384);
            r.x.set(1, 3, 32768);
            Peer p = Peer.provenClient(r);
            p.send(Msg.of(90).str("session").u32(9).u32(0).u32(greatest));
            p.send(Msg.of(98).u32(0).str("exec").u8(0).str("cat"));
            for (int i = 0; i < 3; i++) {
                p.send(Msg.of(94).u32(0).str(new byte[16000]));
            }
            for (int number : new int[] {91, 93, 93, 93}) {
                Check.due("without a window", p.next()[0], number);
            }
            p.send(Msg.of(93).u32(0).u32(50000));
            int piece = (int) Math.min(greatest, 32768);
            Check.due("piece of " + greatest, p.next().length, 9 + piece);
            Check.due("the rest", p.next().length, 9 + 48000 - piece);
            none("no more", p);
        }
    }
}
