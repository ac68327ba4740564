import java.util.NoSuchElementException;
import java.util.function.Consumer;

/**
 * "A call that throws changes nothing": every call is refused in every way that its words name, in many states, and
 * nothing of what can be seen is another then. A twin gets the same calls without the refused ones; it goes on alike.
 */
public final class RefusedCallsTest {
    private static final Class<NoSuchElementException> NO_SUCH = NoSuchElementException.class;
    private static final Class<IllegalArgumentException> ARGUMENT = IllegalArgumentException.class;
    private static final Class<IllegalStateException> STATE = IllegalStateException.class;
    private static final Class<IndexOutOfBoundsException> PLACE = IndexOutOfBoundsException.class;
    private static final int LEAST = Integer.MIN_VALUE;
    private static final int MOST = Integer.MAX_VALUE;

    private final Rig r = new Rig();
    private final Rig twin = new Rig();

    public static void main(String[] args) {
        RefusedCallsTest t = new RefusedCallsTest();
        t.ofNewObject();
        t.ofTheTape();
        t.ofAccounts();
        t.whereNothingIs();
        t.behindStart();
        t.whenProven();
        t.ofChannels();
        t.ofConnections();
        t.ofWires();
        t.whenClosed();
        t.whenBroken();
        t.startsAgain();
        Check.close();
    }

    private void both(Consumer<Rig> step) {
        step.accept(r);
        step.accept(twin);
    }

    private void refused(String what, Class<? extends RuntimeException> why, Check.Call call) {
        String before = Seen.all(r.x);
        Check.throwing(what, why, call);
        Check.due("all behind " + what, Seen.all(r.x), before);
    }

    private void alike(String where) {
        Check.due("the twin " + where, Seen.all(twin.x), Seen.all(r.x));
    }

    /** The TAPE of both holds the same: it is put on a wire that is not moved, and looked at. */
    private void tapesAreAlike(String where) {
        both(g -> g.x.inject(0));
        alike(where);
    }

    private void ofNewObject() {
        refused("start", STATE, r.x::start);
        for (int e = 0; e <= 1; e++) {
            int end = e;
            refused("rekey", STATE, () -> r.x.rekey(end));
            refused("quit", STATE, () -> r.x.quit(end));
        }
        refused("open", STATE, () -> r.x.open(0));
        alike("of a new object");
    }

    private void ofTheTape() {
        both(g -> g.tape(new byte[33]));
        refused("end 34", ARGUMENT, () -> r.x.end(34));
        refused("end -1", ARGUMENT, () -> r.x.end(-1));
        refused("end of the most", ARGUMENT, () -> r.x.end(MOST));
        refused("end of the least", ARGUMENT, () -> r.x.end(LEAST));
        for (int what = 0; what <= 4; what++) {
            int w = what;
            refused("secret " + w + " of 33 bytes", ARGUMENT, () -> r.x.secret(w));
        }
        for (int what : new int[] {-1, 5, LEAST, MOST}) {
            refused("secret " + what, NO_SUCH, () -> r.x.secret(what));
        }
        tapesAreAlike("with a TAPE of 33 bytes");
        both(g -> g.tape(new byte[65517]));
        refused("feed with room for 19", STATE, () -> r.x.feed(1, 2, 3, 4, 5));
        tapesAreAlike("with a TAPE of 65,517 bytes");
        both(g -> g.secret(2, Rig.HOST).secret(4, Crypto.edPublic(Rig.HOST)));
        both(g -> g.x.start());
        alike("with seeds of 0");
    }

    private void ofAccounts() {
        both(g -> g.tape(new byte[97]));
        for (int n : new int[] {LEAST, -1, 0, 33, 98, MOST}) {
            refused("user " + n, ARGUMENT, () -> r.x.user(n, true));
            refused("the client's user " + n, ARGUMENT, () -> r.x.user(n, false));
        }
        refused("a password of 65 bytes", ARGUMENT, () -> r.x.user(32, true));
        refused("the client's password of 65 bytes", ARGUMENT, () -> r.x.user(32, false));
        refused("allow 0", NO_SUCH, () -> r.x.allow(0));
        both(g -> g.tape("alpw").x.user(2, true));
        both(g -> g.tape("alwp"));
        refused("a name that is there", ARGUMENT, () -> r.x.user(2, true));
        refused("allow of 4 bytes", ARGUMENT, () -> r.x.allow(0));
        refused("allow 1", NO_SUCH, () -> r.x.allow(1));
        refused("allow -1", NO_SUCH, () -> r.x.allow(-1));
        for (int i = 0; i < 7; i++) {
            String name = "n" + i;
            both(g -> g.tape(name).x.user(2, true));
        }
        both(g -> g.tape("other"));
        refused("a ninth ACCOUNT", STATE, () -> r.x.user(5, true));
        refused("a ninth ACCOUNT without a name", ARGUMENT, () -> r.x.user(0, true));
        both(g -> g.tape("alpw").x.user(2, false));
    }

    private void whereNothingIs() {
        both(g -> g.tape("any"));
        for (int e : new int[] {-1, 2, LEAST, MOST}) {
            refused("set", NO_SUCH, () -> r.x.set(e, 2, 50));
            refused("move", NO_SUCH, () -> r.x.move(e, 1));
            refused("flip", NO_SUCH, () -> r.x.flip(e, 0, 1));
            refused("seen", NO_SUCH, () -> r.x.seen(e, 0));
            refused("inject", NO_SUCH, () -> r.x.inject(e));
            refused("rekey", NO_SUCH, () -> r.x.rekey(e));
            refused("quit", NO_SUCH, () -> r.x.quit(e));
            refused("about", NO_SUCH, () -> r.x.about(e, 0));
        }
        for (int what : new int[] {-1, 5, LEAST, MOST}) {
            refused("set of another what", NO_SUCH, () -> r.x.set(0, what, 1));
        }
        int[] least = {0, 0, 0, 15, 255};
        int[] most = {22, 22, 16385, 32769, (1 << 30) + 1};
        for (int what = 0; what <= 4; what++) {
            for (int v : new int[] {LEAST, -1, least[what], most[what], MOST}) {
                int w = what;
                refused("set " + what + " to " + v, ARGUMENT, () -> r.x.set(1, w, v));
            }
        }
        for (int port : new int[] {LEAST, -1, 0, 65536, MOST}) {
            refused("port " + port, NO_SUCH, () -> r.x.port(port, true));
        }
        for (int what : new int[] {LEAST, -1, 13, MOST}) {
            refused("about " + what, ARGUMENT, () -> r.x.about(0, what));
        }
        for (int n : new int[] {LEAST, -1, 0, 16, MOST}) {
            refused("exec", NO_SUCH, () -> r.x.exec(n));
            refused("write", NO_SUCH, () -> r.x.write(n, false));
            refused("write of FAR", NO_SUCH, () -> r.x.write(n, true));
            refused("read", NO_SUCH, () -> r.x.read(n, 0, 1));
            refused("finish", NO_SUCH, () -> r.x.finish(n, 1));
            refused("channel", NO_SUCH, () -> r.x.channel(n, 0));
        }
        tapesAreAlike("where nothing is");
    }

    private void behindStart() {
        both(g -> g.x.start());
        both(g -> g.tape(new byte[5]));
        for (int e = 0; e <= 1; e++) {
            int end = e;
            refused("rekey in the first exchange", STATE, () -> r.x.rekey(end));
        }
        refused("open before proof", STATE, () -> r.x.open(0));
        refused("open of no kind before proof", ARGUMENT, () -> r.x.open(-1));
        tapesAreAlike("in the first exchange");
        both(g -> g.x.start());
        both(Rig::settle);
        alike("behind the first exchange");
    }

    private void whenProven() {
        both(g -> g.tape(new byte[256]));
        for (int kind : new int[] {LEAST, -1, 65536, MOST}) {
            refused("open " + kind, ARGUMENT, () -> r.x.open(kind));
        }
        refused("open to a host of 256 bytes", ARGUMENT, () -> r.x.open(1));
        both(g -> g.x.open(0));
        both(g -> g.x.rekey(1));
        refused("rekey of one that has sent KEXINIT", STATE, () -> r.x.rekey(1));
        both(g -> g.x.move(0, 100000));
        refused("rekey of one that has answered it", STATE, () -> r.x.rekey(0));
        both(Rig::settle);
        both(g -> g.x.rekey(0));
        both(g -> g.x.move(1, 100000));
        both(g -> g.x.move(0, 100000));
        refused("rekey of one that waits for 31", STATE, () -> r.x.rekey(0));
        both(g -> g.x.move(1, 100000));
        refused("rekey of one that waits for 21", STATE, () -> r.x.rekey(1));
        both(Rig::settle);
        alike("behind three exchanges");
    }

    private void ofChannels() {
        both(g -> g.x.open(0));
        both(g -> g.tape(new byte[1001]));
        refused("exec of 1,001 bytes, not answered", ARGUMENT, () -> r.x.exec(1));
        both(g -> g.x.end(1000));
        refused("exec, not answered", STATE, () -> r.x.exec(1));
        both(Rig::settle);
        both(g -> g.tape(new byte[16385]));
        refused("write of 16,385 bytes", STATE, () -> r.x.write(0, false));
        refused("exec of 16,385 bytes", ARGUMENT, () -> r.x.exec(0));
        for (int n : new int[] {LEAST, 0, 8, MOST}) {
            refused("read of " + n, ARGUMENT, () -> r.x.read(0, 0, n));
        }
        for (int kind : new int[] {LEAST, -1, 3, MOST}) {
            refused("read of kind " + kind, NO_SUCH, () -> r.x.read(0, kind, 1));
            refused("finish how " + kind, NO_SUCH, () -> r.x.finish(0, kind));
        }
        for (int what : new int[] {LEAST, -1, 11, MOST}) {
            refused("channel " + what, ARGUMENT, () -> r.x.channel(0, what));
        }
        both(g -> g.x.finish(0, 0));
        both(g -> g.tape("x"));
        refused("finish what is ended", STATE, () -> r.x.finish(0, 0));
        refused("write to what is ended", STATE, () -> r.x.write(0, false));
        both(g -> g.x.finish(0, 1));
        refused("end what is closed", STATE, () -> r.x.finish(0, 0));
        refused("close what is closed", STATE, () -> r.x.finish(0, 1));
        refused("write to what is closed", STATE, () -> r.x.write(0, false));
        refused("exec in what is closed", STATE, () -> r.x.exec(0));
        both(Rig::settle);
        both(g -> g.tape("x"));
        refused("finish what is gone", NO_SUCH, () -> r.x.finish(0, 1));
        refused("write to what is gone", NO_SUCH, () -> r.x.write(0, false));
        refused("exec in what is gone", NO_SUCH, () -> r.x.exec(0));
        alike("with a channel gone");
    }

    private void ofConnections() {
        both(g -> g.x.port(7, true));
        both(g -> g.tape("h").x.open(7));
        both(Rig::settle);
        both(g -> g.tape(new byte[16385]));
        refused("write of 16,385 bytes by FAR", STATE, () -> r.x.write(7, true));
        refused("write at another port", NO_SUCH, () -> r.x.write(8, true));
        refused("read at another port", NO_SUCH, () -> r.x.read(8, 2, 1));
        refused("finish at another port", NO_SUCH, () -> r.x.finish(8, 2));
        refused("read of 8 at the port", ARGUMENT, () -> r.x.read(7, 2, 8));
        both(g -> g.x.finish(7, 2));
        refused("finish what FAR has ended", STATE, () -> r.x.finish(7, 2));
        both(g -> g.tape("x"));
        refused("write where FAR has ended", STATE, () -> r.x.write(7, true));
        for (int i = 2; i < 16; i++) {
            both(g -> g.x.open(0));
        }
        refused("a seventeenth channel", STATE, () -> r.x.open(0));
        both(Rig::settle);
        alike("with a connection and 15 channels");
    }

    private void ofWires() {
        both(g -> g.x.rekey(0));
        both(g -> g.tape("on the wire").x.inject(1));
        int n = r.x.about(1, 5);
        for (int at : new int[] {LEAST, -1, n, MOST}) {
            refused("flip at " + at, PLACE, () -> r.x.flip(1, at, 1));
            refused("seen at " + at, PLACE, () -> r.x.seen(1, at));
        }
        for (int many : new int[] {LEAST, -1, 0}) {
            refused("move of " + many, ARGUMENT, () -> r.x.move(1, many));
        }
        both(g -> g.tape(new byte[65520]).x.inject(1));
        both(g -> g.tape(new byte[131073 - 65520 - n]));
        refused("inject of one byte too many", STATE, () -> r.x.inject(1));
        both(g -> g.x.end(10));
        both(g -> g.x.inject(1));
        both(g -> g.x.move(1, n - 11));
        alike("with a wire that was almost full");
    }

    private void whenClosed() {
        both(g -> g.x.start());
        both(Rig::settle);
        both(g -> g.x.open(0));
        both(Rig::settle);
        both(g -> g.x.quit(0));
        both(Rig::settle);
        both(g -> g.tape("x"));
        for (int e = 0; e <= 1; e++) {
            int end = e;
            refused("quit of one that is CLOSED", STATE, () -> r.x.quit(end));
            refused("rekey of one that is CLOSED", STATE, () -> r.x.rekey(end));
        }
        refused("open when CLOSED", STATE, () -> r.x.open(0));
        refused("exec when CLOSED", STATE, () -> r.x.exec(0));
        alike("when CLOSED");
    }

    private void whenBroken() {
        for (int e = 0; e <= 1; e++) {
            int end = e;
            both(g -> g.x.start());
            both(Rig::settle);
            both(g -> g.tape(new byte[16]).x.inject(end));
            both(g -> g.x.move(end, 16));
            Check.due("BROKEN", r.x.about(end, 0), 2);
            refused("quit of one that is BROKEN", STATE, () -> r.x.quit(end));
            refused("rekey of one that is BROKEN", STATE, () -> r.x.rekey(end));
            if (end == 0) {
                refused("open when BROKEN", STATE, () -> r.x.open(0));
            }
            alike("when BROKEN");
        }
    }

    private void startsAgain() {
        both(g -> g.x.start());
        alike("started again");
        both(Rig::settle);
        both(g -> g.run("put f", "some bytes"));
        both(g -> g.x.start());
        alike("in the end");
    }
}
