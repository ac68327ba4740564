import java.util.Arrays;
import java.util.NoSuchElementException;

/** The TAPE, CHANCE, and the edges of promises 2 to 8, 10 to 13, 17 and 23: the last that is allowed. */
public final class EdgesOfCallsTest {
    private static final Class<NoSuchElementException> NO_SUCH = NoSuchElementException.class;
    private static final Class<IllegalArgumentException> ARGUMENT = IllegalArgumentException.class;
    private static final Class<IllegalStateException> STATE = IllegalStateException.class;

    public static void main(String[] args) {
        feedNeedsRoomFor20();
        endKeepsTheFirst();
        theTapeIsTaken();
        theTapeIsNotTaken();
        chanceGoesOnFromBlockToBlock();
        chanceOfEachEnd();
        secretsOf32Bytes();
        namesOf32Bytes();
        namesThatBeginAlike();
        eightAccounts();
        keysOfEachAccount();
        settingsOfEachEnd();
        everyPort();
        portsSideBySide();
        movesAsManyAsThereAre();
        flipsTheLow8Bits();
        injectsToTheBrim();
        readsUpTo7();
        theExceptionNamedFirst();
        countsOfNothingElse();
        Check.close();
    }

    /** Promise 2: there is no room for 20. */
    private static void feedNeedsRoomFor20() {
        for (int n = 65515; n <= 65520; n++) {
            Rig r = new Rig();
            r.tape(new byte[n]);
            if (n <= 65516) {
                Check.due("feed at " + n, r.x.feed(1, 2, 3, 4, 5), n + 20);
            } else {
                Check.throwing("feed at " + n, STATE, () -> r.x.feed(1, 2, 3, 4, 5));
                Check.due("the TAPE", r.x.count(0), n);
            }
        }
    }

    /** Promise 3: n is 0 .. the TAPE's length. */
    private static void endKeepsTheFirst() {
        Rig r = new Rig();
        for (int n = 60; n >= 0; n -= 20) {
            r.tape(Arrays.copyOf(Rig.seed("any"), 32));
            r.x.feed(-1, -1, -1, -1, -1);
            Check.due("end " + n, r.x.end(Math.min(n, 52)), Math.min(n, 52));
            Check.due("length", r.x.count(0), Math.min(n, 52));
        }
        Check.due("end 0 of nothing", r.x.end(0), 0);
        Check.throwing("end 1 of nothing", ARGUMENT, () -> r.x.end(1));
        r.tape(Rig.seed("any")).x.end(5);
        r.x.inject(0);
        Check.due("the first stay", r.wire(0), Arrays.copyOf(Rig.seed("any"), 5));
    }

    /** A call that takes the TAPE leaves it empty: secret, user, allow, inject, open, exec, write. */
    private static void theTapeIsTaken() {
        Rig r = new Rig();
        for (int what = 0; what <= 4; what++) {
            r.tape(Rig.HOST).x.secret(what);
            Check.due("secret " + what, r.x.count(0), 0);
        }
        r.tape("alpw").x.user(2, true);
        Check.due("user of the server", r.x.count(0), 0);
        r.tape("alpw").x.user(2, false);
        Check.due("user of the client", r.x.count(0), 0);
        r.tape(Rig.HOST).x.allow(0);
        Check.due("allow", r.x.count(0), 0);
        r.tape("x").x.inject(0);
        Check.due("inject", r.x.count(0), 0);
        Rig p = Rig.proven();
        p.x.port(9, true);
        p.tape("x").x.open(0);
        Check.due("open of a session", p.x.count(0), 0);
        p.tape("x").x.open(9);
        Check.due("open of direct-tcpip", p.x.count(0), 0);
        p.tape("x").x.write(0, false);
        Check.due("write ahead of 91", p.x.count(0), 0);
        p.settle();
        p.tape("cat").x.exec(0);
        Check.due("exec", p.x.count(0), 0);
        p.tape("x").x.write(0, false);
        Check.due("write", p.x.count(0), 0);
        p.tape("x").x.write(9, true);
        Check.due("write by FAR", p.x.count(0), 0);
    }

    /** All other calls leave the TAPE as it is. */
    private static void theTapeIsNotTaken() {
        Rig r = Rig.proven();
        r.x.open(0);
        r.settle();
        r.tape("kept");
        r.x.set(0, 2, 500);
        r.x.port(9, true);
        r.x.rekey(0);
        r.x.flip(1, 0, 0);
        r.x.seen(1, 0);
        r.settle();
        r.x.read(0, 0, 1);
        r.x.finish(0, 0);
        r.x.about(0, 0);
        r.x.channel(0, 0);
        r.x.quit(0);
        r.x.start();
        Check.due("the TAPE", r.x.count(0), 4);
    }

    /** CHANCE: blocks 0, 1, .. of 32 bytes, and the number has 8 bytes. */
    private static void chanceGoesOnFromBlockToBlock() {
        Rig r = Rig.ready();
        byte[] chance = Crypto.chance(new byte[32], 8300);
        for (int i = 0; i < 414; i++) {
            r.x.start();
            for (int e = 0; e <= 1; e++) {
                int at = 24 + (i + e) % 16;
                Check.due("byte " + (20 * i + at - 24), (byte) r.x.seen(e, at), chance[20 * i + at - 24]);
            }
        }
    }

    private static void chanceOfEachEnd() {
        Rig r = Rig.ready();
        byte[] zeros = Crypto.chance(new byte[32], 40);
        r.secret(0, Rig.seed("c"));
        r.x.start();
        Check.due("of the client", cookie(r, 1), Crypto.chance(Rig.seed("c"), 16));
        Check.due("of the server", cookie(r, 0), Arrays.copyOf(zeros, 16));
        r.secret(0, Rig.seed("c"));
        r.x.start();
        Check.due("the client's begins anew", cookie(r, 1), Crypto.chance(Rig.seed("c"), 16));
        Check.due("the server's goes on", cookie(r, 0), Arrays.copyOfRange(zeros, 20, 36));
    }

    private static byte[] cookie(Rig r, int e) {
        return Arrays.copyOfRange(r.wire(e), 24, 40);
    }

    /** Promise 4: neither 0, 31 nor 33 bytes. */
    private static void secretsOf32Bytes() {
        Rig r = new Rig();
        for (int n : new int[] {0, 1, 31, 33, 64}) {
            for (int what = 0; what <= 4; what++) {
                int w = what;
                r.tape(new byte[n]);
                Check.throwing("secret " + what + " of " + n, ARGUMENT, () -> r.x.secret(w));
            }
            Check.throwing("no such secret of " + n, NO_SUCH, () -> r.x.secret(5));
        }
        Check.throwing("no host key is there yet", STATE, r.x::start);
        r.secret(2, new byte[32]);
        r.x.start();
        Check.due("a host key of 0 is one", r.x.about(1, 0), 1);
    }

    private static String proven(String name, String password) {
        Rig r = new Rig().secret(2, Rig.HOST);
        r.tape(name + password).x.user(name.length(), true);
        r.tape(name + password).x.user(name.length(), false);
        r.x.start();
        r.settle();
        return r.state(0) + " " + r.x.about(0, 8);
    }

    /** Promise 5: n is 1 .. 32, the password has up to 64 bytes. */
    private static void namesOf32Bytes() {
        Check.due("1 and 1", proven("a", "p"), "1/0 1");
        Check.due("32 and 64", proven("n".repeat(32), "p".repeat(64)), "1/0 1");
        Check.due("32 and none", proven("n".repeat(32), ""), "2/14 0");
        Check.due("1 and none", proven("a", ""), "2/14 0");
        Check.due("bytes of all kinds", proven("\u0000\u00ff", "\u00ff\u0000,\n"), "1/0 1");
    }

    private static void namesThatBeginAlike() {
        Rig r = new Rig();
        Check.due("first", r.tape("alan").x.user(4, true), 1);
        Check.due("a beginning of it", r.tape("alan").x.user(3, true), 2);
        Check.due("longer", r.tape("alans").x.user(5, true), 3);
        Check.due("another byte", r.tape("Alan").x.user(4, true), 4);
        r.tape("alan, with another password");
        Check.throwing("the same", ARGUMENT, () -> r.x.user(4, true));
        Check.due("the client's name is free", r.x.user(4, false), 4);
    }

    private static void eightAccounts() {
        Rig r = new Rig();
        for (int i = 1; i <= 8; i++) {
            Check.due("ACCOUNT " + i, r.tape("n" + i).x.user(2, true), i);
            Check.due("so many", r.x.count(1), i);
        }
        r.tape("n9");
        Check.throwing("a ninth", STATE, () -> r.x.user(2, true));
        r.tape("n1");
        Check.throwing("a name that is there comes first", ARGUMENT, () -> r.x.user(2, true));
        Check.throwing("no name comes first", ARGUMENT, () -> r.x.user(0, true));
        Check.due("the client is none", r.x.user(2, false), 8);
    }

    /** Promise 6: the key that ACCOUNT k has then, in place of the one before. */
    private static void keysOfEachAccount() {
        byte[] mine = Crypto.edPublic(Rig.IDENTITY);
        byte[] other = Crypto.edPublic(Rig.HOST);
        for (int k = 0; k <= 1; k++) {
            Rig r = Rig.ready().secret(3, Rig.IDENTITY);
            r.tape("al").x.user(2, false);
            r.tape("bo").x.user(2, true);
            r.tape(mine).x.allow(k);
            r.x.start();
            r.settle();
            Check.due("the key of " + k, r.x.about(0, 8), 1 - k);
            r.tape(other).x.allow(k);
            r.x.start();
            r.settle();
            Check.due("another then", r.x.about(0, 8), 0);
            r.tape(mine).x.allow(0);
            r.x.start();
            r.settle();
            Check.due("and again", r.x.about(0, 8), 1);
            Check.throwing("no third", NO_SUCH, () -> r.x.allow(2));
        }
    }

    /** Promise 7: each END has its own, and what is refused leaves them. */
    private static void settingsOfEachEnd() {
        ShellPair x = new ShellPair();
        int[] usual = {12, 21, 4096, 1024, 1 << 30};
        int[] other = {1, 2, 1, 16, 256};
        int[] wrong = {3, 0, 16385, 15, 255};
        for (int what = 0; what <= 4; what++) {
            int w = what;
            Check.due("it was", x.set(0, what, other[what]), usual[what]);
            Check.throwing("refused", ARGUMENT, () -> x.set(0, w, wrong[w]));
            Check.throwing("refused of the other", ARGUMENT, () -> x.set(1, w, wrong[w]));
            Check.due("the other's", x.set(1, what, usual[what]), usual[what]);
            Check.due("its own", x.set(0, what, usual[what]), other[what]);
        }
    }

    /** Promise 8: 1 .. 65,535. */
    private static void everyPort() {
        ShellPair x = new ShellPair();
        for (int port = 1; port <= 65535; port++) {
            x.port(port, true);
        }
        Check.due("all", x.count(2), 65535);
        x.port(32, false);
        x.port(32, false);
        Check.due("all but one", x.count(2), 65534);
        for (int port = 1; port <= 65535; port++) {
            x.port(port, false);
        }
        Check.due("none", x.count(2), 0);
        Check.throwing("port 0", NO_SUCH, () -> x.port(0, false));
        Check.throwing("port 65,536", NO_SUCH, () -> x.port(65536, true));
    }

    /** Each port is open or not for itself. */
    private static void portsSideBySide() {
        for (int port : new int[] {1, 31, 32, 33, 63, 64, 65, 1024, 32767, 32768, 65504, 65534}) {
            Rig r = Rig.proven();
            r.x.port(port, true);
            r.x.port(port + 1, true);
            r.x.port(port, false);
            r.x.port(port, false);
            Check.due("only " + (port + 1), r.x.count(2), 1);
            int c = r.tape("h").x.open(port);
            int d = r.tape("h").x.open(port + 1);
            r.settle();
            Check.due("which is open", r.x.channel(c, 1) + "/" + r.x.channel(d, 1), "2/0");
        }
    }

    /** Promise 10: n bytes, or as many as there are. */
    private static void movesAsManyAsThereAre() {
        Rig r = Rig.ready();
        Check.due("of nothing", r.x.move(0, 1), 0);
        r.x.start();
        Check.due("1", r.x.move(0, 1), 281);
        Check.due("17 more are its line", r.x.move(0, 17), 264);
        Check.due("all but one", r.x.move(0, 263), 1);
        Check.due("more than there are", r.x.move(0, Integer.MAX_VALUE), 0);
        Check.due("the other's wire has 30 then", r.x.about(1, 5), 282 + 48);
        Check.throwing("0", ARGUMENT, () -> r.x.move(0, 0));
    }

    /** Promise 11: the low 8 bits of with. */
    private static void flipsTheLow8Bits() {
        Rig r = new Rig();
        r.tape(new byte[] {0, (byte) 255, 1}).x.inject(1);
        Check.due("256", r.x.flip(1, 0, 256), 0);
        Check.due("-1", r.x.flip(1, 0, -1), 255);
        Check.due("255 of 255", r.x.flip(1, 1, 255), 0);
        Check.due("128 of the last", r.x.flip(1, 2, 128), 129);
        Check.due("0", r.x.flip(1, 2, 0), 129);
        Check.due("all", r.wire(1), Crypto.bytes("ff0081"));
        Check.due("the first", r.x.seen(1, 0), 255);
        Check.due("the last", r.x.seen(1, 2), 129);
        Check.throwing("behind it", IndexOutOfBoundsException.class, () -> r.x.seen(1, 3));
        Check.throwing("of an empty wire", IndexOutOfBoundsException.class, () -> r.x.seen(0, 0));
        Check.throwing("flip of an empty wire", IndexOutOfBoundsException.class, () -> r.x.flip(0, 0, 1));
    }

    /** Promise 13: at most 131,072 on a wire. */
    private static void injectsToTheBrim() {
        for (int over = 0; over <= 1; over++) {
            Rig r = new Rig();
            Check.due("nothing", r.x.inject(0), 0);
            Check.due("much", r.tape(new byte[65520]).x.inject(0), 65520);
            Check.due("more", r.tape(new byte[65520]).x.inject(0), 131040);
            r.tape(new byte[32 + over]);
            if (over == 0) {
                Check.due("to the brim", r.x.inject(0), 131072);
                Check.due("nothing fits", r.x.inject(0), 131072);
            } else {
                Check.throwing("one above", STATE, () -> r.x.inject(0));
                Check.due("the TAPE stays", r.x.count(0), 33);
                Check.due("the wire, too", r.x.about(0, 5), 131040);
                Check.due("the other wire is empty", r.x.inject(1), 33);
            }
        }
    }

    /** Promise 17: n is 1 .. 7, and fewer may be there. */
    private static void readsUpTo7() {
        Rig r = Rig.proven();
        int c = r.x.open(0);
        r.settle();
        Check.due("none", r.x.read(c, 0, 7), 0);
        r.exec(c, "echo \u00ff\u00fe\u00fd\u00fc\u00fb\u00fa\u00f9");
        r.settle();
        Check.due("1", r.x.read(c, 0, 1), 0x01000000000000ffL);
        Check.due("7", r.x.read(c, 0, 7), 0x07fefdfcfbfaf90aL);
        Check.due("none any more", r.x.read(c, 0, 1), 0);
        Check.due("no ERROR text", r.x.read(c, 1, 7), 0);
        int d = r.x.open(0);
        r.settle();
        r.exec(d, "cat no");
        r.settle();
        Check.due("7 of 6", r.x.read(d, 1, 7), 6L << 56 | 0x75736167650aL);
    }

    /** Of several exceptions the one that the call's words name first. */
    private static void theExceptionNamedFirst() {
        Rig r = Rig.proven();
        r.tape(new byte[1001]);
        Check.throwing("secret", NO_SUCH, () -> r.x.secret(9));
        Check.throwing("allow", NO_SUCH, () -> r.x.allow(9));
        Check.throwing("set", NO_SUCH, () -> r.x.set(2, 0, 99));
        Check.throwing("set of no what", NO_SUCH, () -> r.x.set(0, 9, 99));
        Check.throwing("move", NO_SUCH, () -> r.x.move(2, 0));
        Check.throwing("flip", NO_SUCH, () -> r.x.flip(2, -1, 0));
        Check.throwing("seen", NO_SUCH, () -> r.x.seen(2, -1));
        Check.throwing("about", NO_SUCH, () -> r.x.about(2, 99));
        Check.throwing("channel", NO_SUCH, () -> r.x.channel(0, 99));
        Check.throwing("exec without a channel", NO_SUCH, () -> r.x.exec(0));
        Check.throwing("read without a channel", NO_SUCH, () -> r.x.read(0, 0, 0));
        Check.throwing("read of no kind", NO_SUCH, () -> r.x.read(0, 9, 0));
        r.x.open(0);
        r.tape(new byte[1001]);
        Check.throwing("exec, not answered and too long", ARGUMENT, () -> r.x.exec(0));
        r.x.finish(0, 0);
        Check.throwing("finish no how what is finished", NO_SUCH, () -> r.x.finish(0, 9));
        r.x.quit(0);
        Check.throwing("open of no kind when CLOSED", ARGUMENT, () -> r.x.open(65536));
        Check.throwing("exec without a channel when CLOSED", NO_SUCH, () -> r.x.exec(1));
        Check.throwing("rekey", NO_SUCH, () -> r.x.rekey(2));
        Check.throwing("quit", NO_SUCH, () -> r.x.quit(2));
        Rig full = new Rig();
        full.tape(new byte[65520]).x.inject(0);
        full.tape(new byte[65520]).x.inject(0);
        full.tape(new byte[33]);
        Check.throwing("inject nowhere", NO_SUCH, () -> full.x.inject(2));
    }

    /** Promise 23: another what is -1. */
    private static void countsOfNothingElse() {
        Rig r = Rig.proven();
        for (int what : new int[] {Integer.MIN_VALUE, -1, 5, 6, Integer.MAX_VALUE}) {
            Check.due("count " + what, r.x.count(what), -1);
        }
    }
}
