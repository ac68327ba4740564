import java.util.NoSuchElementException;

/** Promises 1 to 9, 11 to 13, 20, 21 and 23: the calls around a connection, with their edges and exceptions. */
public final class CallsTest {
    private static final Class<NoSuchElementException> NO_SUCH = NoSuchElementException.class;
    private static final Class<IllegalArgumentException> ARGUMENT = IllegalArgumentException.class;
    private static final Class<IllegalStateException> STATE = IllegalStateException.class;

    public static void main(String[] args) {
        newObject();
        tape();
        secrets();
        users();
        settings();
        ports();
        starts();
        wires();
        quits();
        tellsOfNothing();
        Check.close();
    }

    private static void newObject() {
        ShellPair x = new ShellPair();
        int[] due = {12, 21, 4096, 1024, 1 << 30};
        int[] allowed = {12, 21, 4096, 1024, 1 << 30};
        for (int e = 0; e < 2; e++) {
            for (int what = 0; what <= 4; what++) {
                Check.due("setting " + what, x.set(e, what, allowed[what]), due[what]);
            }
            for (int what = 0; what <= 12; what++) {
                Check.due("about " + what + " of a new object", x.about(e, what), 0);
            }
        }
        for (int what = 0; what <= 4; what++) {
            Check.due("count " + what, x.count(what), 0);
        }
        Check.due("count 5", x.count(5), -1);
        Check.due("count -1", x.count(-1), -1);
        Check.throwing("start without host key", STATE, x::start);
        Check.throwing("open without start", STATE, () -> x.open(0));
        Check.throwing("rekey without start", STATE, () -> x.rekey(0));
        Check.throwing("quit without start", STATE, () -> x.quit(1));
        Check.throwing("channel without start", NO_SUCH, () -> x.channel(0, 0));
        Check.throwing("read without start", NO_SUCH, () -> x.read(0, 0, 1));
    }

    private static void tape() {
        Rig r = new Rig();
        Check.due("feed", r.x.feed(0x01020304, -1, 0, 0x7fffffff, 5), 20);
        Check.due("feed again", r.x.feed(0, 0, 0, 0, 0), 40);
        Check.due("end", r.x.end(17), 17);
        Check.due("tape", r.x.count(0), 17);
        Check.throwing("end beyond", ARGUMENT, () -> r.x.end(18));
        Check.throwing("end below", ARGUMENT, () -> r.x.end(-1));
        Check.due("inject before start", r.x.inject(1), 17);
        Check.due("tape is empty", r.x.count(0), 0);
        Check.due("order", r.wire(1), Crypto.bytes("01020304ffffffff000000007fffffff00"));
        Check.due("move to one that is not started", r.x.move(1, 10), 7);
        Check.due("packets", r.x.about(1, 3), 0);
        Check.due("end at 0", r.x.end(0), 0);
        ShellPair y = new ShellPair();
        for (int i = 0; i < 3276; i++) {
            y.feed(0, 0, 0, 0, 0);
        }
        Check.due("almost full", y.count(0), 65520);
        Check.throwing("no room for 20", STATE, () -> y.feed(0, 0, 0, 0, 0));
        y.end(65516);
        Check.due("just room", y.feed(0, 0, 0, 0, 0), 65536);
        Check.due("inject 1", y.inject(0), 65536);
        for (int i = 0; i < 3276; i++) {
            y.feed(0, 0, 0, 0, 0);
        }
        Check.due("inject 2", y.inject(0), 131056);
        y.feed(0, 0, 0, 0, 0);
        y.end(17);
        Check.throwing("inject beyond", STATE, () -> y.inject(0));
        Check.due("the tape stays", y.count(0), 17);
        y.end(16);
        Check.due("inject to the brim", y.inject(0), 131072);
        Check.throwing("inject nowhere", NO_SUCH, () -> y.inject(2));
        Check.due("inject of nothing", y.inject(0), 131072);
    }

    private static void secrets() {
        Rig r = new Rig();
        r.tape(new byte[31]);
        Check.throwing("secret 5", NO_SUCH, () -> r.x.secret(5));
        Check.throwing("secret -1", NO_SUCH, () -> r.x.secret(-1));
        for (int what = 0; what <= 4; what++) {
            int w = what;
            Check.throwing("secret of 31 bytes", ARGUMENT, () -> r.x.secret(w));
        }
        Check.due("the tape stays", r.x.count(0), 31);
        r.secret(2, Rig.HOST);
        Check.due("the tape is taken", r.x.count(0), 0);
        r.x.start();
        Check.due("cookie of the client", cookie(r, 1), java.util.Arrays.copyOf(Crypto.chance(new byte[32], 16), 16));
        byte[] chance = Crypto.chance(new byte[32], 40);
        Check.due("padding is taken next", java.util.Arrays.copyOfRange(r.wire(1), 278, 282),
                java.util.Arrays.copyOfRange(chance, 16, 20));
        r.x.start();
        Check.due("chance goes on", cookie(r, 0), java.util.Arrays.copyOfRange(chance, 20, 36));
        r.secret(0, Rig.seed("a")).secret(1, Rig.seed("b"));
        r.x.start();
        Check.due("seed of the client", cookie(r, 1), Crypto.chance(Rig.seed("a"), 16));
        Check.due("seed of the server", cookie(r, 0), Crypto.chance(Rig.seed("b"), 16));
        r.secret(1, Rig.seed("b"));
        r.x.start();
        Check.due("chance begins anew", cookie(r, 0), Crypto.chance(Rig.seed("b"), 16));
    }

    private static byte[] cookie(Rig r, int e) {
        return java.util.Arrays.copyOfRange(r.wire(e), 24, 40);
    }

    private static void users() {
        Rig r = new Rig();
        r.tape("name");
        Check.throwing("no name", ARGUMENT, () -> r.x.user(0, false));
        Check.throwing("name below 0", ARGUMENT, () -> r.x.user(-1, true));
        Check.throwing("beyond the tape", ARGUMENT, () -> r.x.user(5, true));
        r.tape(new byte[97]);
        Check.throwing("name of 33", ARGUMENT, () -> r.x.user(33, true));
        r.x.end(0);
        r.tape(new byte[97]);
        Check.throwing("password of 65", ARGUMENT, () -> r.x.user(32, true));
        Check.throwing("password of 65 of the client", ARGUMENT, () -> r.x.user(32, false));
        r.x.end(96);
        Check.due("the longest", r.x.user(32, true), 1);
        Check.due("the tape is taken", r.x.count(0), 0);
        r.tape(new byte[32]);
        Check.throwing("the same name", ARGUMENT, () -> r.x.user(32, true));
        Check.due("the client may", r.x.user(32, false), 1);
        for (int i = 0; i < 7; i++) {
            Check.due("account", r.tape("name" + i).x.user(5, true), i + 2);
        }
        r.tape("name0");
        Check.throwing("the same name first", ARGUMENT, () -> r.x.user(5, true));
        r.tape("name8");
        Check.throwing("a ninth", STATE, () -> r.x.user(5, true));
        Check.due("the client's is not", r.x.user(5, false), 8);
        Check.due("accounts", r.x.count(1), 8);
        r.tape(new byte[31]);
        Check.throwing("allow nobody", NO_SUCH, () -> r.x.allow(8));
        Check.throwing("allow below", NO_SUCH, () -> r.x.allow(-1));
        Check.throwing("allow 31 bytes", ARGUMENT, () -> r.x.allow(7));
        r.tape(new byte[32]).x.allow(7);
        Check.due("the tape is taken", r.x.count(0), 0);
    }

    private static void settings() {
        ShellPair x = new ShellPair();
        int[][] right = {{1, 2, 12, 21}, {1, 2, 12, 21}, {1, 16384}, {16, 32768}, {256, 1 << 30}};
        int[][] wrong = {{0, 3, 11, 22, 121, -1}, {0, 3, 11, 22}, {0, -1, 16385}, {15, 32769}, {255, (1 << 30) + 1, -1}};
        for (int e = 0; e < 2; e++) {
            for (int what = 0; what < 5; what++) {
                int was = x.set(e, what, right[what][0]);
                for (int v : wrong[what]) {
                    int end = e;
                    int w = what;
                    Check.throwing("set " + what + " to " + v, ARGUMENT, () -> x.set(end, w, v));
                }
                was = right[what][0];
                for (int v : right[what]) {
                    Check.due("set " + what, x.set(e, what, v), was);
                    was = v;
                }
            }
        }
        Check.throwing("no such end", NO_SUCH, () -> x.set(2, 0, 0));
        Check.throwing("no such end below", NO_SUCH, () -> x.set(-1, 0, 1));
        Check.throwing("no such what", NO_SUCH, () -> x.set(0, 5, 0));
        Check.throwing("no such what below", NO_SUCH, () -> x.set(0, -1, 1));
    }

    private static void ports() {
        ShellPair x = new ShellPair();
        Check.throwing("port 0", NO_SUCH, () -> x.port(0, true));
        Check.throwing("port 65536", NO_SUCH, () -> x.port(65536, false));
        Check.throwing("port -1", NO_SUCH, () -> x.port(-1, true));
        x.port(1, true);
        x.port(65535, true);
        x.port(65535, true);
        x.port(9, false);
        Check.due("open ports", x.count(2), 2);
        x.port(1, false);
        Check.due("open ports then", x.count(2), 1);
    }

    private static void starts() {
        Rig r = Rig.proven();
        r.run("put f", "abc");
        int kept = r.x.open(0);
        r.settle();
        Check.due("channels there", r.x.about(0, 9) + r.x.about(1, 9), 2);
        r.x.start();
        Check.due("channels are gone", r.x.about(0, 9) + r.x.about(1, 9), 0);
        Check.throwing("and not told of", NO_SUCH, () -> r.x.channel(kept, 0));
        for (int e = 0; e < 2; e++) {
            int[] due = {1, 0, 1, 0, 0, 282, 0, 0, 0, 0, 0, 0, 1};
            for (int what = 0; what <= 12; what++) {
                Check.due("about " + what + " behind start", r.x.about(e, what), due[what]);
            }
        }
        Check.due("bytes in STORE", r.x.count(4), 3);
        r.settle();
        Check.due("proven again", r.x.about(0, 8) + r.x.about(1, 8), 2);
        Check.due("STORE stays", r.run("get f", ""), "0|abc|");
    }

    private static void wires() {
        Rig r = Rig.ready();
        r.x.start();
        Check.due("the client's line", new String(r.wire(1), 0, 18, java.nio.charset.StandardCharsets.ISO_8859_1),
                "SSH-2.0-client_1\r\n");
        Check.due("the server's line", new String(r.wire(0), 0, 18, java.nio.charset.StandardCharsets.ISO_8859_1),
                "SSH-2.0-server_1\r\n");
        Check.due("seen", r.x.seen(0, 0), 'S');
        Check.due("flip", r.x.flip(0, 0, 0x7fffff01), 'R');
        Check.due("flipped", r.x.seen(0, 0), 'R');
        Check.due("flip back", r.x.flip(0, 0, 1), 'S');
        Check.due("the last", r.x.seen(0, 281), r.wire(0)[281] & 255);
        Check.throwing("seen at the end", IndexOutOfBoundsException.class, () -> r.x.seen(0, 282));
        Check.throwing("seen before", IndexOutOfBoundsException.class, () -> r.x.seen(0, -1));
        Check.throwing("flip at the end", IndexOutOfBoundsException.class, () -> r.x.flip(1, 282, 1));
        Check.throwing("flip before", IndexOutOfBoundsException.class, () -> r.x.flip(1, -1, 1));
        Check.throwing("seen nowhere", NO_SUCH, () -> r.x.seen(2, -1));
        Check.throwing("flip nowhere", NO_SUCH, () -> r.x.flip(-1, 0, 1));
        Check.throwing("move nowhere", NO_SUCH, () -> r.x.move(2, 0));
        Check.throwing("move nothing", ARGUMENT, () -> r.x.move(0, 0));
        Check.due("move some", r.x.move(0, 100), 182);
        Check.due("what follows moves up", r.x.move(0, 181), 1);
        Check.due("nothing is taken yet", r.x.about(0, 3), 0);
        Check.due("the last byte", r.x.move(0, 1), 0);
        Check.due("it is taken", r.x.about(0, 3), 1);
        Check.due("the answer is there", r.x.about(1, 5), 282 + 48);
        Check.due("move nothing more", r.x.move(0, 5), 0);
        Check.due("byte by byte", byByte(), 1);
    }

    /** A whole session, moved byte by byte. */
    private static int byByte() {
        Rig r = Rig.ready();
        r.x.start();
        for (int i = 0; i < 20000 && r.x.about(0, 5) + r.x.about(1, 5) > 0; i++) {
            r.x.move(i & 1, 1);
        }
        return r.x.about(0, 8);
    }

    private static void quits() {
        Rig r = Rig.proven();
        int sent = r.x.about(0, 2);
        r.x.quit(0);
        Check.due("CLOSED by itself", r.state(0), "3/11");
        Check.due("a packet", r.x.about(0, 2), sent + 1);
        Check.throwing("quit again", STATE, () -> r.x.quit(0));
        Check.throwing("quit nowhere", NO_SUCH, () -> r.x.quit(2));
        Check.throwing("open behind it", STATE, () -> r.x.open(0));
        r.settle();
        Check.due("told", r.state(1), "3/11");
        Check.throwing("quit of the other", STATE, () -> r.x.quit(1));
        Rig s = Rig.ready();
        s.x.start();
        s.x.quit(1);
        byte[] wire = s.wire(0);
        Check.due("MESSAGE 1 in the open", java.util.Arrays.copyOfRange(wire, 282, 282 + 18),
                new Msg().u32(20).u8(6).u8(1).u32(11).u32(0).u32(0).bytes());
        s.settle();
        Check.due("the client is told", s.state(0), "3/11");
    }

    private static void tellsOfNothing() {
        ShellPair x = Rig.proven().x;
        Check.throwing("about nowhere", NO_SUCH, () -> x.about(2, 13));
        Check.throwing("about 13", ARGUMENT, () -> x.about(0, 13));
        Check.throwing("about -1", ARGUMENT, () -> x.about(1, -1));
        Check.throwing("channel 0", NO_SUCH, () -> x.channel(0, 11));
        x.open(0);
        Check.throwing("channel what 11", ARGUMENT, () -> x.channel(0, 11));
        Check.throwing("channel what -1", ARGUMENT, () -> x.channel(0, -1));
        Check.throwing("channel 1", NO_SUCH, () -> x.channel(1, 0));
        Check.throwing("channel 16", NO_SUCH, () -> x.channel(16, 0));
        Check.throwing("channel -1", NO_SUCH, () -> x.channel(-1, 0));
    }
}
