import java.util.NoSuchElementException;

/** CHANNELS, promises 7, 14 to 18 and 22, at their edges. */
public final class EdgesOfChannelsTest {
    private static final Class<NoSuchElementException> NO_SUCH = NoSuchElementException.class;
    private static final Class<IllegalArgumentException> ARGUMENT = IllegalArgumentException.class;
    private static final Class<IllegalStateException> STATE = IllegalStateException.class;

    public static void main(String[] args) {
        notDueBeforeProof();
        theLeastNumberThatIsFree();
        sixteenAtTheServer();
        kindsOfOpen();
        portsOf90();
        typesOf90();
        whatIsToldAtTheOpening();
        otherNumbers();
        windowUpTo32Bits();
        dataAboveTheWindow();
        dataAboveThePacket();
        dataOfNothing();
        kindsOf95();
        halfOfTheWindow();
        windowsOf1To3();
        windowAsSetNow();
        aByteOrMoreIsRead();
        noMoreWindow();
        notAfterTheEnd();
        notAfterTheClose();
        piecesOfTheGreatestPacket();
        piecesOfTheWindow();
        writeUpTo16384();
        farWritesUpTo16384();
        writeBeforeTheAnswer();
        execUpTo1000();
        execOfOneThatIsClosed();
        closedBeforeTheAnswer();
        refusedBeforeTheAnswer();
        endAndClose();
        closeIsAnsweredOnce();
        answersInOrder();
        statusOf4Bytes();
        globalRequests();
        toldTillUsedAgain();
        nothingOfAnOldChannel();
        nothingOfAnOldConnection();
        lookedAtOnceAReading();
        Check.close();
    }

    private static Msg opened(long recipient, long sender, long window, long packet) {
        return Msg.of(91).u32(recipient).u32(sender).u32(window).u32(packet);
    }

    private static Msg session(long sender, long window, long packet) {
        return Msg.of(90).str("session").u32(sender).u32(window).u32(packet);
    }

    private static Msg to(int number) {
        return Msg.of(number).u32(0);
    }

    /** A client with these settings and a session there, whose number at the server is 9. */
    private static Peer server(int ofWindow, int ofPacket, long window, long packet) {
        Rig r = Rig.ready();
        r.x.set(0, 2, ofWindow);
        r.x.set(0, 3, ofPacket);
        Peer p = Peer.provenServer(r);
        r.x.open(0);
        Check.due("90", p.next(), session(0, ofWindow, ofPacket).bytes());
        return p.send(opened(0, 9, window, packet));
    }

    /** A server with these settings and a session there, whose number at the client is 9. */
    private static Peer client(int ofWindow, int ofPacket, long window, long packet) {
        Rig r = Rig.ready();
        r.x.set(1, 2, ofWindow);
        r.x.set(1, 3, ofPacket);
        Peer p = Peer.provenClient(r);
        p.send(session(9, window, packet));
        Check.due("91", p.next(), opened(9, 0, ofWindow, ofPacket).bytes());
        return p;
    }

    /** A server with this WINDOW and a connection at port 7, whose number at the client is 9. */
    private static Peer far(int ofWindow) {
        Rig r = Rig.ready();
        r.x.port(7, true);
        r.x.set(1, 2, ofWindow);
        Peer p = Peer.provenClient(r);
        p.send(Msg.of(90).str("direct-tcpip").u32(9).u32(1).u32(1).str("h").u32(7).str("o").u32(9));
        Check.due("91", p.next(), opened(9, 0, ofWindow, 1024).bytes());
        return p;
    }

    private static Peer server() {
        return server(4096, 1024, 100, 100);
    }

    private static Peer client() {
        return client(4096, 1024, 100, 100);
    }

    /** 80 .. 82 and 90 .. 100 are not due before proof, at neither END. */
    private static void notDueBeforeProof() {
        for (int number = 80; number <= 100; number++) {
            if (number <= 82 || number >= 90) {
                Msg m = Msg.of(number).u32(0).u32(0).u32(0).u32(0);
                Check.due(number + " at the server", Peer.client(Rig.ready()).send(m).state(), "2/2");
                Check.due(number + " at the client", Peer.server(Rig.ready()).send(m).state(), "2/2");
            }
        }
        Peer p = Peer.client(Rig.ready());
        p.send(Msg.of(5).str("ssh-userauth"));
        p.send(Msg.of(50).str("al").str("ssh-connection").str("password").u8(0).str("no"));
        Check.due("90 ahead of 52", p.send(session(0, 1, 1)).state(), "2/2");
    }

    private static void theLeastNumberThatIsFree() {
        Rig r = Rig.proven();
        for (int i = 0; i < 16; i++) {
            Check.due("number", r.x.open(0), i);
        }
        Check.throwing("16 are asked for", STATE, () -> r.x.open(0));
        r.settle();
        Check.throwing("16 are there", STATE, () -> r.x.open(0));
        Check.due("at both", r.x.about(0, 9) + "/" + r.x.about(1, 9), "16/16");
        r.x.finish(7, 1);
        r.x.finish(3, 1);
        Check.throwing("closed by one is still there", STATE, () -> r.x.open(0));
        r.settle();
        Check.due("gone at both", r.x.about(0, 9) + "/" + r.x.about(1, 9), "14/14");
        Check.due("the least", r.x.open(0), 3);
        Check.due("the next", r.x.open(0), 7);
        Check.throwing("16 again", STATE, () -> r.x.open(0));
        r.settle();
        Check.due("there", r.x.channel(3, 0) + r.x.channel(7, 0), 2);
        Check.throwing("no number 16", NO_SUCH, () -> r.x.channel(16, 0));
    }

    private static void sixteenAtTheServer() {
        Peer p = client();
        for (int i = 1; i < 16; i++) {
            Check.due("91", p.send(session(i, 1, 1)).next(), opened(i, i, 4096, 1024).bytes());
        }
        Check.due("a seventeenth", p.send(session(99, 1, 1)).next(), Msg.of(92).u32(99).u32(4).str("").str("").bytes());
        Check.due("told of 16", p.rig.x.about(1, 9), 16);
        p.send(Msg.of(97).u32(5));
        Check.due("97", p.next(), Msg.of(97).u32(5).bytes());
        Check.due("its number is free", p.send(session(99, 1, 1)).next(), opened(99, 5, 4096, 1024).bytes());
        p.send(Msg.of(90).str("x").u32(3).u32(1).u32(1));
        Check.due("16 are there comes ahead of the type", p.next(), Msg.of(92).u32(3).u32(4).str("").str("").bytes());
    }

    /** Promise 14: kind 0 .. 65,535, a host of up to 255 bytes. */
    private static void kindsOfOpen() {
        Rig r = Rig.proven();
        for (int kind : new int[] {Integer.MIN_VALUE, -1, 65536, Integer.MAX_VALUE}) {
            r.x.end(0);
            Check.throwing("kind " + kind, ARGUMENT, () -> r.x.open(kind));
        }
        for (int n : new int[] {0, 1, 255, 256}) {
            r.tape(new byte[n]);
            if (n < 256) {
                r.x.open(1 + n);
            } else {
                Check.throwing("a host of 256", ARGUMENT, () -> r.x.open(65535));
                Check.due("the TAPE stays", r.x.count(0), 256);
                Check.due("a session has no host", r.x.open(0), 3);
            }
            Check.due("the TAPE is taken", r.x.count(0), 0);
        }
        Check.due("port 65,535", r.tape("h").x.open(65535), 4);
        Peer p = Peer.provenServer(Rig.ready());
        p.rig.tape("h".repeat(255)).x.open(65535);
        Check.due("90", p.next(), Msg.of(90).str("direct-tcpip").u32(0).u32(4096).u32(1024).str("h".repeat(255)).u32(65535)
                .str("0.0.0.0").u32(0).bytes());
        p.rig.tape("").x.open(1);
        Check.due("an empty host", p.next(), Msg.of(90).str("direct-tcpip").u32(1).u32(4096).u32(1024).str("").u32(1)
                .str("0.0.0.0").u32(0).bytes());
        p.rig.tape("not empty").x.open(0);
        Check.due("a session", p.next(), session(2, 4096, 1024).bytes());
    }

    /** FAR has ports 1 .. 65,535: reason 2 for one that is not open, or is none. */
    private static void portsOf90() {
        Rig r = Rig.ready();
        r.x.port(1, true);
        r.x.port(65535, true);
        Peer p = Peer.provenClient(r);
        long[] ports = {0, 1, 2, 1, 65534, 65535, 65535, 65536, 65537, 131071, 0x80000001L, 0xffffffffL};
        int many = 0;
        for (int i = 0; i < ports.length; i++) {
            p.send(Msg.of(90).str("direct-tcpip").u32(5).u32(1).u32(1).str("h").u32(ports[i]).str("o").u32(9));
            boolean opens = i == 1 || i == 5;
            Msg due = opens ? opened(5, many, 4096, 1024) : Msg.of(92).u32(5).u32(2).str("").str("");
            Check.due("port " + ports[i] + " at " + i, p.next(), due.bytes());
            many += opens ? 1 : 0;
            Check.due("connections", r.x.count(3), many);
        }
        p.send(Msg.of(97).u32(0));
        Check.due("gone", r.x.count(3), 1);
        p.next();
        p.send(Msg.of(90).str("direct-tcpip").u32(6).u32(1).u32(1).str("").u32(1).str("").u32(0));
        Check.due("another connection then", p.next(), opened(6, 0, 4096, 1024).bytes());
    }

    private static void typesOf90() {
        Peer p = Peer.provenClient(Rig.ready());
        for (String type : new String[] {"", "sessio", "sessions", "Session", "direct-tcpi", "forwarded-tcpip"}) {
            p.send(Msg.of(90).str(type).u32(5).u32(1).u32(1));
            Check.due("type " + type, p.next(), Msg.of(92).u32(5).u32(3).str("").str("").bytes());
        }
        Peer q = Peer.provenServer(Rig.ready());
        for (String type : new String[] {"", "session", "direct-tcpip", "forwarded-tcpip", "x11"}) {
            q.send(Msg.of(90).str(type).u32(0xffffffffL).u32(1).u32(1).raw(new byte[type.length()]));
            Check.due("at the client", q.next(), Msg.of(92).u32(0xffffffffL).u32(1).str("").str("").bytes());
        }
        Check.due("none is there", q.rig.x.about(0, 9), 0);
    }

    /** WINDOW and PACKET are those of the opening, 90 and 91, whatever is set then. */
    private static void whatIsToldAtTheOpening() {
        for (int plays = 0; plays <= 1; plays++) {
            Peer p = plays == 0 ? client(50, 20, 1, 1) : server(50, 20, 1, 1);
            p.rig.x.set(1 - plays, 2, 16384);
            p.rig.x.set(1 - plays, 3, 32768);
            Check.due("20", p.send(to(94).str(new byte[20])).state(), "1/0");
            Check.due("20 more", p.send(to(94).str(new byte[20])).state(), "1/0");
            Check.due("above what is left", p.send(to(94).str(new byte[11])).state(), "2/2");
            Peer q = plays == 0 ? client(50, 20, 1, 1) : server(50, 20, 1, 1);
            q.rig.x.set(1 - plays, 3, 32768);
            Check.due("above PACKET as told", q.send(to(94).str(new byte[21])).state(), "2/2");
            Peer s = plays == 0 ? client(500, 100, 1, 1) : server(500, 100, 1, 1);
            s.rig.x.set(1 - plays, 3, 16);
            Check.due("PACKET as told then", s.send(to(94).str(new byte[100])).state(), "1/0");
        }
        Rig r = Rig.ready();
        Peer p = Peer.provenServer(r);
        r.x.open(0);
        r.x.set(0, 3, 32768);
        p.send(opened(0, 1, 1, 1));
        Check.due("as 90 told it, not as it is at 91", p.send(to(94).str(new byte[1025])).state(), "2/2");
    }

    /** 91 and 92 for one that was asked for; all else for one that is there. */
    private static void otherNumbers() {
        for (long n : new long[] {1, 15, 16, 0x80000000L, 0xffffffffL}) {
            Peer p = Peer.provenServer(Rig.ready());
            p.rig.x.open(0);
            Check.due("91 for " + n, p.send(opened(n, 0, 1, 1)).state(), "2/2");
            p = Peer.provenServer(Rig.ready());
            p.rig.x.open(0);
            Check.due("92 for " + n, p.send(Msg.of(92).u32(n).u32(1).str("").str("")).state(), "2/2");
            for (int number : new int[] {93, 94, 96, 97}) {
                Msg m = number == 93 || number == 94 ? Msg.of(number).u32(n).u32(0) : Msg.of(number).u32(n);
                Check.due(number + " for " + n, client().send(m).state(), "2/2");
                Check.due(number + " for " + n, server().send(m).state(), "2/2");
            }
        }
        Check.due("91 for one that is there", server().send(opened(0, 0, 1, 1)).state(), "2/2");
        Check.due("92 for one that is there", server().send(Msg.of(92).u32(0).u32(1).str("").str("")).state(), "2/2");
        Msg refused = Msg.of(92).u32(0).u32(1).str("").str("");
        for (Msg m : new Msg[] {opened(0, 0, 1, 1), refused, to(93).u32(1), to(94).str("x"), to(96), to(97)}) {
            Peer p = Peer.provenServer(Rig.ready());
            p.rig.x.open(0);
            Check.due("for one that was refused", p.send(refused).send(m).state(), "2/2");
        }
        for (Msg m : new Msg[] {to(93).u32(1), to(94).str("x"), to(95).u32(1).str("x"), to(96), to(97), to(98).str("x").u8(0)}) {
            Peer p = Peer.provenServer(Rig.ready());
            p.rig.x.open(0);
            Check.due("for one that is only asked for", p.send(m).state(), "2/2");
        }
    }

    /** 93: at most 2^32 - 1 counting, else DISCONNECT 2. */
    private static void windowUpTo32Bits() {
        long most = 0xffffffffL;
        long[][] all = {{0, most, 0}, {0, most, 1}, {most, 0, 0}, {most, 1, -1}, {100, most - 100, 0}, {100, most - 99, -1},
            {1L << 31, (1L << 31) - 1, 0}, {1L << 31, 1L << 31, -1}, {most, most, -1}};
        for (long[] a : all) {
            for (int plays = 0; plays <= 1; plays++) {
                Peer p = plays == 0 ? client(100, 100, a[0], 100) : server(100, 100, a[0], 100);
                p.send(to(93).u32(a[1]));
                boolean above = a[0] + a[1] > most;
                Check.due(a[0] + " and " + a[1], p.state(), above ? "2/2" : "1/0");
                if (plays == 1) {
                    Check.due("window", p.rig.x.channel(0, 6), (int) (above ? a[0] : a[0] + a[1]));
                    p.send(to(93).u32(1));
                    Check.due("and one more", p.state(), a[0] + a[1] >= most ? "2/2" : "1/0");
                }
            }
        }
        Peer p = server(100, 100, 10, 100);
        p.rig.write(0, false, "12345");
        Check.due("what was used makes room", p.send(to(93).u32(most - 5)).state(), "1/0");
        Check.due("one above", p.send(to(93).u32(1)).state(), "2/2");
        Check.due("93 of 0", server().send(to(93).u32(0)).state(), "1/0");
    }

    private static void dataAboveTheWindow() {
        for (int plays = 0; plays <= 1; plays++) {
            for (int over = 0; over <= 1; over++) {
                Peer p = plays == 0 ? client(30, 100, 1, 1) : server(30, 100, 1, 1);
                Check.due("all of it and " + over, p.send(to(94).str(new byte[30 + over])).state(), over == 0 ? "1/0" : "2/2");
                Peer q = plays == 0 ? client(30, 100, 1, 1) : server(30, 100, 1, 1);
                q.send(to(94).str(new byte[29]));
                Check.due("the rest and " + over, q.send(to(94).str(new byte[1 + over])).state(), over == 0 ? "1/0" : "2/2");
                Peer s = plays == 0 ? client(30, 100, 1, 1) : server(30, 100, 1, 1);
                Check.due("95, and " + over, s.send(to(95).u32(1).str(new byte[30 + over])).state(), over == 0 ? "1/0" : "2/2");
            }
        }
        Peer p = server(30, 100, 1, 1);
        p.send(to(94).str(new byte[31]));
        Check.due("none of it is kept", p.rig.x.channel(0, 3) + "/" + p.rig.x.channel(0, 7), "0/30");
    }

    private static void dataAboveThePacket() {
        for (int plays = 0; plays <= 1; plays++) {
            for (int packet : new int[] {16, 1000, 32768}) {
                int most = Math.min(packet, 16384);
                for (int over = 0; over <= 1; over++) {
                    Peer p = plays == 0 ? client(16384, packet, 1, 1) : server(16384, packet, 1, 1);
                    Check.due("94 of " + most + " and " + over, p.send(to(94).str(new byte[most + over])).state(),
                            over == 0 ? "1/0" : "2/2");
                    Peer q = plays == 0 ? client(16384, packet, 1, 1) : server(16384, packet, 1, 1);
                    Check.due("95 of " + most + " and " + over, q.send(to(95).u32(1).str(new byte[most + over])).state(),
                            over == 0 ? "1/0" : "2/2");
                }
            }
        }
    }

    /** A 94 of nothing fits in a window of nothing. */
    private static void dataOfNothing() {
        for (int plays = 0; plays <= 1; plays++) {
            Peer p = plays == 0 ? client(1, 16, 1, 1) : server(1, 16, 1, 1);
            p.send(to(94).str("x"));
            p.send(to(94).str(""));
            p.send(to(95).u32(1).str(""));
            Check.due("nothing", p.state(), "1/0");
            p.saysNothing("nothing was read");
            Check.due("something", p.send(to(94).str("x")).state(), "2/2");
        }
    }

    /** Kinds of 95 other than 1, and at the server all, use the window as if read at once. */
    private static void kindsOf95() {
        for (long kind : new long[] {0, 1, 2, 0xffffffffL}) {
            Peer p = server(20, 20, 1, 1);
            p.send(to(95).u32(kind).str(new byte[10]));
            Check.due("kept, kind " + kind, p.rig.x.channel(0, 4) + "/" + p.rig.x.channel(0, 3), kind == 1 ? "10/0" : "0/0");
            p.saysNothing("half is left");
            p.send(to(95).u32(kind).str("x"));
            if (kind == 1) {
                p.saysNothing("it is kept");
                p.rig.x.read(0, 1, 1);
            }
            Check.due("93", p.next(), Msg.of(93).u32(9).u32(11).bytes());
            Peer q = client(20, 20, 1, 1);
            q.send(to(95).u32(kind).str(new byte[10]));
            q.saysNothing("half is left at the server");
            q.send(to(95).u32(kind).str("x"));
            Check.due("93 of the server", q.next(), Msg.of(93).u32(9).u32(11).bytes());
            Check.due("none of it is input", q.send(to(98).str("exec").u8(0).str("cat")).next() == null ? 1 : 0, 1);
        }
        Peer p = far(20);
        p.send(to(95).u32(1).str(new byte[11]));
        Check.due("at FAR, too", p.next(), Msg.of(93).u32(9).u32(11).bytes());
        Check.due("nothing comes to it", p.rig.x.read(7, 2, 7), 0);
    }

    /** The window left is below WINDOW / 2, cut off. */
    private static void halfOfTheWindow() {
        for (int window : new int[] {100, 101, 16384}) {
            int half = window / 2;
            for (int left : new int[] {half + 1, half, half - 1, 0}) {
                Peer p = server(window, 32768, 1, 1);
                p.send(to(94).str(new byte[window - left]));
                p.rig.x.read(0, 0, 1);
                byte[] next = p.next();
                Check.due("WINDOW " + window + ", left " + left, next == null ? "none" : Check.hex(next),
                        left >= half ? "none" : Check.hex(Msg.of(93).u32(9).u32(window - left).bytes()));
                Check.due("granted", p.rig.x.channel(0, 7), left >= half ? left : window);
            }
        }
    }

    private static void windowsOf1To3() {
        for (int window = 1; window <= 3; window++) {
            Peer p = server(window, 16, 1, 1);
            for (int i = 1; i <= window; i++) {
                p.send(to(94).str("x"));
                Check.due("read", p.rig.x.read(0, 0, 1), (1L << 56) + 'x');
                byte[] next = p.next();
                boolean due = i == window && window > 1;
                Check.due("WINDOW " + window + " with " + i, next == null ? 0 : next[0], due ? 93 : 0);
            }
            Check.due("left", p.rig.x.channel(0, 7), window == 1 ? 0 : window);
        }
    }

    private static void windowAsSetNow() {
        Peer p = server(100, 100, 1, 1);
        p.send(to(94).str(new byte[60]));
        p.rig.x.set(0, 2, 80);
        p.rig.x.read(0, 0, 1);
        p.saysNothing("40 is not below 40");
        p.rig.x.set(0, 2, 82);
        p.saysNothing("set looks at nothing");
        p.rig.x.read(0, 0, 1);
        Check.due("40 is below 41", p.next(), Msg.of(93).u32(9).u32(42).bytes());
        p.rig.x.set(0, 2, 16384);
        p.rig.x.read(0, 0, 1);
        Check.due("up to the most", p.next(), Msg.of(93).u32(9).u32(16384 - 82).bytes());
        p.rig.x.set(0, 2, 1);
        p.rig.x.read(0, 0, 1);
        p.saysNothing("more than WINDOW is granted");
        Check.due("and stays", p.rig.x.channel(0, 7), 16384);
    }

    private static void aByteOrMoreIsRead() {
        Peer p = server(100, 100, 1, 1);
        p.send(to(94).str(new byte[40]));
        p.send(to(94).str(new byte[40]));
        p.rig.x.read(0, 1, 7);
        p.saysNothing("there is no ERROR text to read");
        p.rig.x.read(0, 0, 1);
        Check.due("a byte is", p.next(), Msg.of(93).u32(9).u32(80).bytes());
        Peer q = far(100);
        Rig r = q.rig;
        r.x.set(1, 2, 1000);
        r.x.read(7, 2, 7);
        q.saysNothing("nothing is there to read at FAR");
        q.send(to(94).str("ab"));
        r.x.read(7, 2, 1);
        Check.due("a byte is at FAR", q.next(), Msg.of(93).u32(9).u32(902).bytes());
    }

    /** No 93 after 97 was sent, nor after the other's 96 or 97. */
    private static void noMoreWindow() {
        for (int how = 0; how < 3; how++) {
            Peer p = server(100, 100, 1, 1);
            p.send(to(94).str(new byte[90]));
            if (how == 0) {
                p.rig.x.finish(0, 1);
                Check.due("97", p.next(), Msg.of(97).u32(9).bytes());
            } else if (how == 1) {
                p.send(to(96));
            } else {
                p.send(to(97));
                Check.due("97", p.next(), Msg.of(97).u32(9).bytes());
            }
            Check.due("what came is there", p.rig.read(0, 0).length, 90);
            p.saysNothing("no 93, how " + how);
            Check.due("granted", p.rig.x.channel(0, 7), 10);
        }
        Peer q = far(100);
        Rig r = q.rig;
        q.send(to(94).str(new byte[90]));
        q.send(to(96));
        Check.due("at FAR", r.read(7, 2).length, 90);
        q.saysNothing("no 93 behind the client's 96");
    }

    /** 94 and 95 also not after its 96; the rest may come. */
    private static void notAfterTheEnd() {
        for (int plays = 0; plays <= 1; plays++) {
            for (Msg m : new Msg[] {to(94).str("x"), to(94).str(""), to(95).u32(1).str("x"), to(95).u32(2).str("")}) {
                Peer p = plays == 0 ? client() : server();
                Check.due("data behind 96", p.send(to(96)).send(m).state(), "2/2");
            }
            for (Msg m : new Msg[] {to(93).u32(1), to(96), to(97), to(98).str("x").u8(0)}) {
                Peer p = plays == 0 ? client() : server();
                Check.due("else behind 96", p.send(to(96)).send(m).state(), "1/0");
            }
        }
    }

    private static void notAfterTheClose() {
        Msg[] all = {to(93).u32(1), to(94).str("x"), to(95).u32(1).str("x"), to(96), to(97), to(98).str("x").u8(0), to(99), to(100)};
        for (Msg m : all) {
            for (int plays = 0; plays <= 1; plays++) {
                Peer p = plays == 0 ? client() : server();
                Check.due("behind 97", p.send(to(97)).send(m).state(), "2/2");
            }
        }
        Peer p = server();
        p.rig.x.finish(0, 1);
        for (Msg m : new Msg[] {to(93).u32(1), to(94).str("x"), to(95).u32(1).str("y"), to(96), to(98).str("x").u8(0), to(97)}) {
            Check.due("behind its own 97 all may come", p.send(m).state(), "1/0");
        }
        Check.due("kept", p.rig.text(0, 0) + p.rig.text(0, 1), "xy");
    }

    /** In pieces of at most the other's greatest packet: 0: none; above 32,768 as that. */
    private static void piecesOfTheGreatestPacket() {
        for (int greatest : new int[] {1, 2, 7, 100}) {
            Peer p = server(100, 100, 10000, greatest);
            p.rig.tape(new byte[greatest * 2 + 1]).x.write(0, false);
            for (int n : new int[] {greatest, greatest, 1}) {
                Check.due("piece of " + greatest, p.next(), Msg.of(94).u32(9).str(new byte[n]).bytes());
            }
            p.saysNothing("no more");
        }
        Peer p = server(100, 100, 10000, 0);
        Check.due("all waits", p.rig.write(0, false, "abc"), 3);
        p.send(to(93).u32(100));
        p.rig.x.finish(0, 0);
        p.saysNothing("packets of 0");
        Peer q = server(100, 100, 0xffffffffL, 0x80000000L);
        q.rig.tape(new byte[16384]).x.write(0, false);
        Check.due("in one", q.next().length, 16384 + 9);
    }

    private static void piecesOfTheWindow() {
        Peer p = server(100, 100, 0, 100);
        Check.due("no window", p.rig.write(0, false, "0123456789"), 10);
        p.saysNothing("no window");
        for (int i = 1; i <= 3; i++) {
            p.send(to(93).u32(i));
            Check.due("as much as it allows", p.next().length, 9 + i);
            p.saysNothing("and no more");
            Check.due("used up", p.rig.x.channel(0, 6), 0);
        }
        p.rig.x.finish(0, 0);
        p.saysNothing("4 wait, and 96 behind them");
        p.send(to(93).u32(4));
        Check.due("the last", p.next(), Msg.of(94).u32(9).str("6789").bytes());
        Check.due("96 needs no window", p.next(), Msg.of(96).u32(9).bytes());
        Peer q = server(100, 100, 0, 100);
        q.rig.x.finish(0, 0);
        Check.due("96 alone", q.next(), Msg.of(96).u32(9).bytes());
    }

    /** Promise 16: what waits and this together are at most 16,384, ahead of sending. */
    private static void writeUpTo16384() {
        for (int waits : new int[] {0, 1, 16383, 16384}) {
            Peer p = server(100, 100, 0, 100);
            Check.due("waits", p.rig.tape(new byte[waits]).x.write(0, false), waits);
            p.rig.tape(new byte[16385 - waits]);
            Check.throwing("one above", STATE, () -> p.rig.x.write(0, false));
            Check.due("as before", p.rig.x.channel(0, 5) + "/" + p.rig.x.count(0), waits + "/" + (16385 - waits));
            p.rig.x.end(16384 - waits);
            Check.due("just so many", p.rig.x.write(0, false), 16384);
        }
        Peer q = server(100, 100, 1 << 20, 32768);
        q.rig.tape(new byte[16385]);
        Check.throwing("ahead of sending", STATE, () -> q.rig.x.write(0, false));
        q.rig.x.end(16384);
        Check.due("all is sent", q.rig.x.write(0, false), 0);
    }

    private static void farWritesUpTo16384() {
        Rig r = Rig.ready();
        r.x.port(65535, true);
        Peer p = Peer.provenClient(r);
        p.send(Msg.of(90).str("direct-tcpip").u32(9).u32(5).u32(3).str("h").u32(65535).str("o").u32(9));
        p.next();
        r.tape(new byte[16385]);
        Check.throwing("one above", STATE, () -> r.x.write(65535, true));
        r.x.end(16384);
        Check.due("5 of it are sent", r.x.write(65535, true), 16379);
        Check.due("a piece", p.next(), Msg.of(94).u32(9).str(new byte[3]).bytes());
        Check.due("the rest of the window", p.next(), Msg.of(94).u32(9).str(new byte[2]).bytes());
        r.tape(new byte[6]);
        Check.throwing("6 more", STATE, () -> r.x.write(65535, true));
        r.x.end(5);
        Check.due("5 more", r.x.write(65535, true), 16384);
    }

    private static void writeBeforeTheAnswer() {
        Peer p = Peer.provenServer(Rig.ready());
        p.rig.x.open(0);
        p.next();
        Check.due("it waits", p.rig.write(0, false, "abc"), 3);
        p.rig.x.finish(0, 0);
        Check.throwing("it is ended", STATE, () -> p.rig.x.write(0, false));
        p.saysNothing("91 is not there");
        p.send(opened(0, 9, 2, 100));
        Check.due("as much as the window allows", p.next(), Msg.of(94).u32(9).str("ab").bytes());
        p.send(to(93).u32(1));
        Check.due("the rest", p.next(), Msg.of(94).u32(9).str("c").bytes());
        Check.due("96", p.next(), Msg.of(96).u32(9).bytes());
    }

    /** Promise 15: a command of up to 1,000 bytes. */
    private static void execUpTo1000() {
        for (int n : new int[] {0, 1, 999, 1000}) {
            Peer p = server();
            p.rig.tape(new byte[n]).x.exec(0);
            Check.due("98 with " + n, p.next(), Msg.of(98).u32(9).str("exec").u8(1).str(new byte[n]).bytes());
        }
        Peer p = server();
        p.rig.tape(new byte[1001]);
        Check.throwing("1,001", ARGUMENT, () -> p.rig.x.exec(0));
        p.saysNothing("no 98");
        Peer c = client();
        c.send(to(98).str("exec").u8(1).str("echo " + "x".repeat(2000)));
        Check.due("the server takes more", c.next(), Msg.of(99).u32(9).bytes());
    }

    private static void execOfOneThatIsClosed() {
        Peer p = server();
        p.rig.x.finish(0, 0);
        p.rig.tape("x").x.exec(0);
        p.next();
        Check.due("98 behind 96", p.next()[0], 98);
        p.rig.x.finish(0, 1);
        p.rig.tape("x");
        Check.throwing("closed by the client", STATE, () -> p.rig.x.exec(0));
        Peer q = server();
        q.send(to(97));
        q.rig.tape("x");
        Check.throwing("closed by both", NO_SUCH, () -> q.rig.x.exec(0));
        Peer s = Peer.provenServer(Rig.ready());
        s.rig.x.open(0);
        s.rig.tape("x");
        Check.throwing("not answered", STATE, () -> s.rig.x.exec(0));
        s.rig.x.finish(0, 1);
        s.rig.tape("x");
        Check.throwing("not answered and closed", STATE, () -> s.rig.x.exec(0));
        Peer t = server();
        t.rig.x.quit(0);
        t.rig.tape("x");
        Check.throwing("the client is not OPEN", STATE, () -> t.rig.x.exec(0));
    }

    /** 97 will be sent when 91 comes, and what waits is dropped. */
    private static void closedBeforeTheAnswer() {
        Peer p = Peer.provenServer(Rig.ready());
        p.rig.x.open(0);
        p.next();
        p.rig.write(0, false, "abc");
        p.rig.x.finish(0, 0);
        p.rig.x.finish(0, 1);
        Check.due("dropped", p.rig.x.channel(0, 5), 0);
        p.saysNothing("91 is not there");
        p.send(opened(0, 9, 100, 100));
        Check.due("97, no 94 and no 96", p.next(), Msg.of(97).u32(9).bytes());
        p.saysNothing("nothing else");
        Check.due("there till the other's 97", p.rig.x.channel(0, 0), 1);
        p.send(to(97));
        Check.due("gone", p.rig.x.channel(0, 0), 3);
        p.saysNothing("97 once");
    }

    private static void refusedBeforeTheAnswer() {
        for (int how = 0; how < 3; how++) {
            Peer p = Peer.provenServer(Rig.ready());
            p.rig.x.open(0);
            p.next();
            p.rig.write(0, false, "abc");
            if (how < 2) {
                p.rig.x.finish(0, how);
            }
            p.send(Msg.of(92).u32(0).u32(0xffffffffL).str("").str(""));
            p.saysNothing("what waited is dropped, 96 and 97, too");
            Check.due("refused", p.rig.x.channel(0, 0) + "/" + p.rig.x.channel(0, 1) + "/" + p.rig.x.channel(0, 5), "2/-1/0");
            Check.throwing("write", NO_SUCH, () -> p.rig.x.write(0, false));
            Check.throwing("finish 0", NO_SUCH, () -> p.rig.x.finish(0, 0));
            Check.throwing("finish 1", NO_SUCH, () -> p.rig.x.finish(0, 1));
            Check.throwing("exec", NO_SUCH, () -> p.rig.x.exec(0));
            Check.due("read", p.rig.x.read(0, 0, 7) + p.rig.x.read(0, 1, 7), 0);
            Check.due("none is there", p.rig.x.about(0, 9), 0);
        }
    }

    /** finish: done before, or (0) the channel is closed by the client: IllegalStateException. */
    private static void endAndClose() {
        Peer p = server();
        p.rig.x.finish(0, 0);
        Check.due("96", p.next(), Msg.of(96).u32(9).bytes());
        Check.throwing("0 again", STATE, () -> p.rig.x.finish(0, 0));
        p.rig.x.finish(0, 1);
        Check.due("97", p.next(), Msg.of(97).u32(9).bytes());
        Check.throwing("1 again", STATE, () -> p.rig.x.finish(0, 1));
        Check.throwing("0 then", STATE, () -> p.rig.x.finish(0, 0));
        Peer q = server();
        q.rig.x.finish(0, 1);
        Check.throwing("0 behind 1", STATE, () -> q.rig.x.finish(0, 0));
        q.send(to(97));
        Check.throwing("gone, 0", NO_SUCH, () -> q.rig.x.finish(0, 0));
        Check.throwing("gone, 1", NO_SUCH, () -> q.rig.x.finish(0, 1));
    }

    /** One that gets 97 sends 97 if it has not; gone when both were sent and had. */
    private static void closeIsAnsweredOnce() {
        for (int plays = 0; plays <= 1; plays++) {
            Peer p = plays == 0 ? client() : server();
            p.send(to(97));
            Check.due("97", p.next(), Msg.of(97).u32(9).bytes());
            p.saysNothing("once");
            Check.due("gone", p.rig.x.about(1 - plays, 9), 0);
        }
        Peer p = server(100, 100, 2, 100);
        p.rig.write(0, false, "abc");
        p.rig.x.finish(0, 0);
        p.next();
        p.send(to(97));
        Check.due("97, what waited and 96 are dropped", p.next(), Msg.of(97).u32(9).bytes());
        Check.due("nothing waits", p.rig.x.channel(0, 5), 0);
        Peer c = client(100, 100, 2, 100);
        c.send(to(98).str("exec").u8(0).str("echo abc"));
        Check.due("a part", c.next(), Msg.of(94).u32(9).str("ab").bytes());
        c.send(to(97));
        Check.due("97, what it had to send is dropped", c.next(), Msg.of(97).u32(9).bytes());
        c.saysNothing("no status");
    }

    /** 99 and 100 are due if a request waits for one. */
    private static void answersInOrder() {
        Peer p = server();
        Check.due("none waits", server().send(to(99)).state() + " " + server().send(to(100)).state(), "2/2 2/2");
        p.rig.exec(0, "a");
        p.rig.exec(0, "b");
        p.rig.exec(0, "c");
        p.send(to(100)).send(to(99)).send(to(100));
        Check.due("answered", p.rig.x.channel(0, 9) + "/" + p.rig.x.channel(0, 10), "1/2");
        Check.due("a fourth", p.send(to(99)).state(), "2/2");
        Peer q = server();
        q.rig.x.open(0);
        q.send(opened(1, 4, 1, 1));
        q.rig.exec(1, "a");
        Check.due("another channel's does not count", q.send(to(99)).state(), "2/2");
        Check.due("99 at the server", client().send(to(99)).state(), "2/2");
        Check.due("100 at the server", client().send(to(100)).state(), "2/2");
    }

    private static void statusOf4Bytes() {
        for (long status : new long[] {0, 255, 256, 0x7fffffffL, 0xffffffffL}) {
            Peer p = server();
            Check.due("none", p.rig.x.channel(0, 2), -1);
            p.send(to(98).str("exit-status").u8(0).u32(status));
            Check.due("status " + status, p.rig.x.channel(0, 2), (int) status);
            p.saysNothing("no answer");
        }
        for (String kind : new String[] {"", "exit-statu", "exit-status ", "exit-signal", "exec"}) {
            for (int wanted : new int[] {0, 1, 255}) {
                Peer p = server();
                p.send(to(98).str(kind).u8(wanted).u32(5));
                byte[] next = p.next();
                Check.due("98 of " + kind, next == null ? "none" : Check.hex(next),
                        wanted == 0 ? "none" : Check.hex(Msg.of(100).u32(9).bytes()));
                Check.due("no status", p.rig.x.channel(0, 2), -1);
            }
        }
    }

    private static void globalRequests() {
        for (int plays = 0; plays <= 1; plays++) {
            for (int wanted : new int[] {0, 1, 2, 255}) {
                Peer p = plays == 0 ? client() : server();
                p.send(Msg.of(80).str("").u8(wanted));
                byte[] next = p.next();
                Check.due("80 with " + wanted, next == null ? 0 : next[0], wanted == 0 ? 0 : 82);
            }
            Check.due("81", (plays == 0 ? client() : server()).send(Msg.of(81)).state(), "2/2");
            Check.due("82", (plays == 0 ? client() : server()).send(Msg.of(82)).state(), "2/2");
        }
    }

    /** Promise 22: a number is told of till it is used again, in this connection. */
    private static void toldTillUsedAgain() {
        Rig r = Rig.proven();
        Check.throwing("none yet", NO_SUCH, () -> r.x.channel(0, 0));
        int c = r.x.open(0);
        r.settle();
        r.exec(c, "exit 7");
        r.settle();
        Check.due("gone, and told of", r.x.channel(c, 0) + "/" + r.x.channel(c, 2) + "/" + r.x.channel(c, 9), "3/7/1");
        int refused = r.tape("h").x.open(1);
        Check.due("the number is used again", refused, c);
        Check.due("told of anew", r.x.channel(c, 0) + "/" + r.x.channel(c, 2) + "/" + r.x.channel(c, 9), "0/-1/0");
        r.settle();
        Check.due("refused", r.x.channel(c, 0) + "/" + r.x.channel(c, 1), "2/2");
        Check.throwing("no other", NO_SUCH, () -> r.x.channel(1, 0));
        Check.throwing("what 11", ARGUMENT, () -> r.x.channel(c, 11));
        Check.throwing("what -1", ARGUMENT, () -> r.x.channel(c, -1));
        r.x.start();
        Check.throwing("of another connection", NO_SUCH, () -> r.x.channel(c, 0));
    }

    /** A channel that uses a number again has nothing of the one before. */
    private static void nothingOfAnOldChannel() {
        Peer p = server(100, 100, 2, 100);
        for (int i = 0; i < 3; i++) {
            p.rig.exec(0, "cat");
        }
        p.send(to(99)).send(to(100));
        p.send(to(94).str("left")).send(to(95).u32(1).str("over"));
        p.send(to(98).str("exit-status").u8(0).u32(7)).send(to(96)).send(to(97));
        Check.due("what was not read is there", p.rig.x.channel(0, 3) + "/" + p.rig.x.channel(0, 4), "4/4");
        p.rig.x.open(0);
        int[] due = {0, 0, -1, 0, 0, 0, 0, 100, 0, 0, 0};
        for (int what = 0; what <= 10; what++) {
            Check.due("channel " + what + " anew", p.rig.x.channel(0, what), due[what]);
        }
        Check.due("nothing can be read", p.rig.x.read(0, 0, 7) + p.rig.x.read(0, 1, 7), 0);
        p.send(opened(0, 4, 1, 1));
        Check.due("the request of before waits for nothing", p.send(to(99)).state(), "2/2");
    }

    /** start: all channels are gone, with what they had, at both ENDS. */
    private static void nothingOfAnOldConnection() {
        Rig r = Rig.ready();
        r.x.port(7, true);
        r.x.set(1, 2, 3);
        r.x.set(0, 2, 3);
        r.x.start();
        r.settle();
        r.x.open(0);
        r.tape("h").x.open(7);
        r.settle();
        r.write(0, false, "client's");
        r.exec(0, "echo of the server's");
        r.exec(0, "never answered");
        r.write(1, false, "to FAR");
        r.write(7, true, "from FAR");
        r.x.move(1, 100000);
        r.x.start();
        r.settle();
        Check.due("a session", r.x.open(0), 0);
        Check.due("a connection", r.tape("h").x.open(7), 1);
        Check.due("nothing waits", r.x.channel(0, 5) + r.x.channel(1, 5), 0);
        r.settle();
        Check.due("nothing came", r.x.channel(0, 3) + r.x.channel(1, 3) + r.x.read(7, 2, 7), 0);
        Check.due("nothing was used", r.x.channel(0, 6) + "/" + r.x.channel(0, 7) + "/" + r.x.channel(1, 6), "3/3/3");
        Check.due("nothing waits at FAR", r.tape("").x.write(7, true), 0);
        Check.due("nothing was answered", r.x.channel(0, 9) + r.x.channel(0, 10), 0);
        r.exec(0, "exit 5");
        r.settle();
        Check.due("a command as the first", r.x.channel(0, 2) + "/" + r.x.channel(0, 9), "5/1");
    }

    /** The window is looked at when something was read, and not again when WINDOW is set and something else comes. */
    private static void lookedAtOnceAReading() {
        for (String command : new String[] {"", "cat", "put f", "echo x"}) {
            Peer p = client(100, 100, 0, 100);
            if (!command.isEmpty()) {
                p.send(to(98).str("exec").u8(0).str(command));
                p.send(to(94).str(new byte[10]));
            }
            p.send(to(95).u32(1).str(new byte[10]));
            p.saysNothing("more than half is left, " + command);
            p.rig.x.set(1, 2, 1000);
            p.send(Msg.of(2).str("")).send(to(93).u32(0)).send(to(98).str("x").u8(0));
            p.saysNothing("nothing was read since, " + command);
            p.send(to(95).u32(1).str(""));
            p.saysNothing("nor is nothing, " + command);
            p.send(to(95).u32(1).str("x"));
            Check.due("a byte is, " + command, p.next()[0], 93);
        }
        Peer q = server(100, 100, 100, 100);
        q.send(to(95).u32(2).str(new byte[10]));
        q.rig.x.set(0, 2, 1000);
        q.send(Msg.of(2).str("")).send(to(93).u32(0));
        q.rig.write(0, false, "x");
        Check.due("94", q.next()[0], 94);
        q.saysNothing("nothing was read since at the client");
    }
}
