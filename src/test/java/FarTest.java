import java.util.NoSuchElementException;

/** FAR, promises 8, 14 and 16 to 18: connections handed on to ports. */
public final class FarTest {
    private static final Class<NoSuchElementException> NO_SUCH = NoSuchElementException.class;
    private static final Class<IllegalStateException> STATE = IllegalStateException.class;

    public static void main(String[] args) {
        bothWays();
        onePerPort();
        windowOfFar();
        whatFarWrites();
        theClientCloses();
        farEndsFirst();
        Check.close();
    }

    private static Rig withPort(int port) {
        Rig r = Rig.proven();
        r.x.port(port, true);
        return r;
    }

    private static int opens(Rig r, int port) {
        int c = r.tape("host").x.open(port);
        r.settle();
        return c;
    }

    private static String text(Rig r, int port) {
        return r.text(port, 2);
    }

    private static void bothWays() {
        Rig r = withPort(65535);
        Check.throwing("no connection yet", NO_SUCH, () -> r.x.read(65535, 2, 1));
        Check.throwing("write without", NO_SUCH, () -> r.x.write(65535, true));
        Check.throwing("finish without", NO_SUCH, () -> r.x.finish(65535, 2));
        int c = opens(r, 65535);
        Check.due("there", r.x.channel(c, 0) + "/" + r.x.count(3), "1/1");
        r.write(c, false, "to far");
        Check.due("not there before it comes", r.x.read(65535, 2, 7), 0);
        r.settle();
        Check.due("some", r.x.read(65535, 2, 3), (3L << 56) + 't' * 65536 + 'o' * 256 + ' ');
        Check.due("the rest", text(r, 65535), "far");
        Check.due("nothing waits", r.write(65535, true, "from far"), 0);
        r.settle();
        Check.due("to the client", r.text(c, 0), "from far");
        r.x.finish(c, 0);
        r.settle();
        Check.due("far may go on", r.write(65535, true, "still"), 0);
        r.x.finish(65535, 2);
        Check.throwing("write behind its end", STATE, () -> r.x.write(65535, true));
        Check.throwing("end twice", STATE, () -> r.x.finish(65535, 2));
        Check.due("there till 97 comes", r.x.count(3), 1);
        r.settle();
        Check.due("gone", r.x.channel(c, 0) + "/" + r.x.channel(c, 8) + "/" + r.x.count(3), "3/1/0");
        Check.due("kept", r.text(c, 0), "still");
        Check.throwing("no connection any more", NO_SUCH, () -> r.x.read(65535, 2, 1));
    }

    private static void onePerPort() {
        Rig r = withPort(80);
        int c = opens(r, 80);
        int d = opens(r, 80);
        Check.due("one at a time", r.x.channel(c, 0) + "/" + r.x.channel(d, 0) + "/" + r.x.channel(d, 1), "1/2/2");
        r.x.port(80, false);
        Check.due("closing the port leaves it", r.x.count(2) + "/" + r.x.count(3), "0/1");
        r.x.port(81, true);
        int e = opens(r, 81);
        Check.due("another port", r.x.channel(e, 0) + "/" + r.x.count(3), "1/2");
        r.write(c, false, "first");
        r.write(e, false, "second");
        r.settle();
        Check.due("each has its own", text(r, 80) + text(r, 81), "firstsecond");
        r.x.finish(c, 1);
        r.settle();
        Check.due("gone", r.x.channel(c, 0) + "/" + r.x.count(3), "3/1");
        Check.due("the port is closed", r.x.channel(opens(r, 80), 1), 2);
        r.x.port(80, true);
        Check.due("and open", r.x.channel(opens(r, 80), 0), 1);
        Check.throwing("port 0", NO_SUCH, () -> r.x.write(0, true));
        Check.throwing("port -1", NO_SUCH, () -> r.x.read(-1, 2, 1));
        Check.throwing("7 at most", IllegalArgumentException.class, () -> r.x.read(80, 2, 8));
    }

    private static void windowOfFar() {
        Rig r = withPort(9);
        r.x.set(1, 2, 10);
        int c = opens(r, 9);
        Check.due("10 bytes may go", r.write(c, false, "0123456789abcdef"), 6);
        r.settle();
        Check.due("6 wait", r.x.channel(c, 5) + "/" + r.x.channel(c, 6), "6/0");
        Check.due("read 1", r.x.read(9, 2, 1), (1L << 56) + '0');
        r.settle();
        Check.due("10 more may go", r.x.channel(c, 5) + "/" + r.x.channel(c, 6), "0/4");
        Check.due("all", text(r, 9), "123456789abcdef");
        r.x.finish(c, 0);
        r.settle();
        Check.due("there, for far has not ended", r.x.channel(c, 0), 1);
        Check.due("nothing more", r.x.read(9, 2, 7), 0);
    }

    private static void whatFarWrites() {
        Rig r = Rig.ready();
        r.x.port(7, true);
        r.x.set(0, 2, 20);
        r.x.set(0, 3, 16);
        r.x.start();
        r.settle();
        int c = opens(r, 7);
        Check.due("more than the window", r.tape(new byte[30]).x.write(7, true), 10);
        Check.due("and more", r.tape(new byte[100]).x.write(7, true), 110);
        Check.throwing("too much", STATE, () -> r.tape(new byte[16275]).x.write(7, true));
        Check.due("the tape stays", r.x.count(0), 16275);
        r.x.end(0);
        Check.due("just room", r.tape(new byte[16274]).x.write(7, true), 16384);
        r.x.finish(7, 2);
        r.settle();
        Check.due("96 waits for the data", r.x.channel(c, 8) + "/" + r.x.channel(c, 3), "0/20");
        int all = 0;
        for (int i = 0; i < 3000 && r.x.channel(c, 8) == 0; i++) {
            all += r.read(c, 0).length;
            r.settle();
        }
        all += r.read(c, 0).length;
        Check.due("all of it", all, 16404);
        Check.due("96", r.x.channel(c, 8), 1);
        r.x.finish(c, 0);
        r.settle();
        Check.due("closed by the server", r.x.channel(c, 0), 3);
    }

    private static void theClientCloses() {
        Rig r = withPort(7);
        int c = opens(r, 7);
        r.write(c, false, "unread");
        r.settle();
        r.x.finish(c, 1);
        r.settle();
        Check.due("gone", r.x.channel(c, 0) + "/" + r.x.count(3), "3/0");
        Check.throwing("with what was not read", NO_SUCH, () -> r.x.read(7, 2, 1));
        int d = opens(r, 7);
        Check.due("a new one", d, c);
        Check.due("has nothing of it", r.x.read(7, 2, 1), 0);
    }

    private static void farEndsFirst() {
        Rig r = withPort(7);
        int c = opens(r, 7);
        r.x.finish(7, 2);
        r.settle();
        Check.due("no more comes", r.x.channel(c, 8) + "/" + r.x.channel(c, 0), "1/1");
        Check.due("the client may go on", r.write(c, false, "still"), 0);
        r.x.finish(c, 0);
        r.x.move(1, 100000);
        Check.due("read before it is gone", text(r, 7), "still");
        r.settle();
        Check.due("then it is gone", r.x.channel(c, 0) + "/" + r.x.count(3), "3/0");
    }
}
