import java.nio.ByteBuffer;
import java.nio.charset.StandardCharsets;
import java.util.Arrays;

/** A ShellPair, and calls of it in the handy form that tests want. */
final class Rig {
    static final byte[] HOST = seed("host");
    static final byte[] IDENTITY = seed("identity");

    final ShellPair x = new ShellPair();

    static byte[] seed(String name) {
        return Crypto.sha256(latin(name));
    }

    static byte[] latin(String s) {
        return s.getBytes(StandardCharsets.ISO_8859_1);
    }

    Rig tape(byte[] b) {
        x.end(0);
        for (int i = 0; i < b.length; i += 20) {
            ByteBuffer five = ByteBuffer.wrap(Arrays.copyOf(Arrays.copyOfRange(b, i, Math.min(b.length, i + 20)), 20));
            x.feed(five.getInt(), five.getInt(), five.getInt(), five.getInt(), five.getInt());
        }
        x.end(b.length);
        return this;
    }

    Rig tape(String s) {
        return tape(latin(s));
    }

    Rig secret(int what, byte[] b) {
        tape(b);
        x.secret(what);
        return this;
    }

    /** A server with a host key, an ACCOUNT al with password pw and a key, and a client that is al. */
    static Rig ready() {
        Rig r = new Rig();
        r.secret(2, HOST).secret(4, Crypto.edPublic(HOST));
        r.tape("alpw").x.user(2, true);
        r.tape("alpw").x.user(2, false);
        return r;
    }

    Rig withKey() {
        secret(3, IDENTITY);
        tape(Crypto.edPublic(IDENTITY));
        x.allow(0);
        return this;
    }

    /** A connection on which the client is proven. */
    static Rig proven() {
        Rig r = ready();
        r.x.start();
        r.settle();
        Check.due("proven", r.x.about(0, 8) + r.x.about(1, 8), 2);
        return r;
    }

    /** Moves all to both ENDS till nothing more comes. */
    Rig settle() {
        for (int i = 0; i < 1000 && x.about(0, 5) + x.about(1, 5) > 0; i++) {
            x.move(i & 1, 1 << 20);
        }
        return this;
    }

    byte[] wire(int e) {
        byte[] b = new byte[x.about(e, 5)];
        for (int i = 0; i < b.length; i++) {
            b[i] = (byte) x.seen(e, i);
        }
        return b;
    }

    /** The wire to END e holds these bytes instead, which are not fewer than those there. */
    void rewire(int e, byte[] want) {
        byte[] is = wire(e);
        for (int i = 0; i < is.length; i++) {
            if (is[i] != want[i]) {
                x.flip(e, i, is[i] ^ want[i]);
            }
        }
        if (want.length > is.length) {
            tape(Arrays.copyOfRange(want, is.length, want.length));
            x.inject(e);
        }
    }

    /** The wire to END e gets bytes of 0 till there is only so much room on it. */
    Rig fill(int e, int room) {
        for (int left = 131072 - room - x.about(e, 5); left > 0; left = 131072 - room - x.about(e, 5)) {
            tape(new byte[Math.min(left, 65000)]).x.inject(e);
        }
        return this;
    }

    byte[] read(int channel, int kind) {
        Msg m = new Msg();
        for (int i = 0; i < 100000; i++) {
            long v = x.read(channel, kind, 7);
            int n = (int) (v >>> 56);
            for (int k = n - 1; k >= 0; k--) {
                m.u8((int) (v >>> 8 * k));
            }
            if (n == 0) {
                break;
            }
        }
        return m.bytes();
    }

    String text(int channel, int kind) {
        return new String(read(channel, kind), StandardCharsets.ISO_8859_1);
    }

    int write(int channel, boolean far, String s) {
        return tape(s).x.write(channel, far);
    }

    void exec(int channel, String command) {
        tape(command).x.exec(channel);
    }

    /** Runs a command in a new session: status, output and ERROR texts. */
    String run(String command, String input) {
        int c = x.open(0);
        settle();
        exec(c, command);
        if (!input.isEmpty()) {
            write(c, false, input);
        }
        x.finish(c, 0);
        StringBuilder out = new StringBuilder();
        StringBuilder errors = new StringBuilder();
        for (int i = 0; i < 1000; i++) {
            settle();
            String o = text(c, 0);
            String e = text(c, 1);
            out.append(o);
            errors.append(e);
            if (o.isEmpty() && e.isEmpty() && x.about(0, 5) + x.about(1, 5) == 0) {
                break;
            }
        }
        Check.due("channel of " + command + " is gone", x.channel(c, 0), 3);
        return x.channel(c, 2) + "|" + out + "|" + errors;
    }

    String state(int e) {
        return x.about(e, 0) + "/" + x.about(e, 1);
    }
}
