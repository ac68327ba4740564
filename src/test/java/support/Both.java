import java.nio.ByteBuffer;
import java.util.ArrayList;
import java.util.Arrays;
import java.util.List;
import java.util.NoSuchElementException;

/** A ShellPair and a Model that get the same calls; what they answer is compared, and all that they tell. */
final class Both {
    private interface Call {
        long answer();
    }

    final ShellPair x = new ShellPair();
    final Model m = new Model();
    final List<String> log = new ArrayList<>();
    boolean differ;

    private static String answer(Call c) {
        try {
            return "" + c.answer();
        } catch (IllegalStateException | IllegalArgumentException | NoSuchElementException | IndexOutOfBoundsException e) {
            return e.getClass().getSimpleName();
        }
    }

    private void call(String what, Call ofClass, Call ofModel) {
        log.add(what);
        same(what, answer(ofClass), answer(ofModel));
    }

    private void same(String what, String ofClass, String ofModel) {
        if (!ofClass.equals(ofModel)) {
            differ = true;
            log.add(what + ": the class answered " + ofClass + ", the model " + ofModel);
        }
    }

    private void call(String what, Runnable ofClass, Runnable ofModel) {
        call(what, () -> {
            ofClass.run();
            return 0;
        }, () -> {
            ofModel.run();
            return 0;
        });
    }

    /** Compares all that is told, and the wires if they are not long. */
    void looks() {
        for (int what = -1; what <= 13; what++) {
            int w = what;
            for (int e = 0; e < 2; e++) {
                int end = e;
                same("about(" + e + ", " + w + ")", answer(() -> x.about(end, w)), answer(() -> m.about(end, w)));
            }
            same("count(" + w + ")", answer(() -> x.count(w)), answer(() -> m.count(w)));
        }
        for (int n = 0; n < 16; n++) {
            ModelChannel c = m.client.channels[n];
            int last = c == null ? 0 : c.state == ModelChannel.REFUSED ? 5 : 11;
            for (int what = 0; what <= last; what++) {
                int k = n;
                int w = what;
                same("channel(" + n + ", " + w + ")", answer(() -> x.channel(k, w)), answer(() -> m.channel(k, w)));
            }
        }
        for (int e = 0; e < 2 && !differ; e++) {
            int n = m.endOf(e).wire.size;
            for (int i = 0; i < n && n < 6000; i++) {
                if (x.seen(e, i) != m.seen(e, i)) {
                    same("seen(" + e + ", " + i + ")", "" + x.seen(e, i), "" + m.seen(e, i));
                    break;
                }
            }
        }
    }

    Both tape(byte[] b) {
        log.add("the TAPE is " + Check.hex(b.length > 99 ? Arrays.copyOf(b, 99) : b) + ", " + b.length + " bytes");
        x.end(0);
        m.end(0);
        for (int i = 0; i < b.length; i += 20) {
            byte[] twenty = Arrays.copyOf(Arrays.copyOfRange(b, i, Math.min(b.length, i + 20)), 20);
            ByteBuffer five = ByteBuffer.wrap(twenty);
            x.feed(five.getInt(), five.getInt(), five.getInt(), five.getInt(), five.getInt());
            m.feed(twenty);
        }
        x.end(b.length);
        m.end(b.length);
        return this;
    }

    Both tape(String s) {
        return tape(Rig.latin(s));
    }

    void secret(int what) {
        call("secret(" + what + ")", () -> x.secret(what), () -> m.secret(what));
    }

    void user(int n, boolean server) {
        call("user(" + n + ", " + server + ")", () -> x.user(n, server), () -> m.user(n, server));
    }

    void allow(int k) {
        call("allow(" + k + ")", () -> x.allow(k), () -> m.allow(k));
    }

    void set(int e, int what, int v) {
        call("set(" + e + ", " + what + ", " + v + ")", () -> x.set(e, what, v), () -> m.set(e, what, v));
    }

    void port(int port, boolean open) {
        call("port(" + port + ", " + open + ")", () -> x.port(port, open), () -> m.port(port, open));
    }

    void start() {
        call("start()", x::start, m::start);
    }

    void move(int e, int n) {
        call("move(" + e + ", " + n + ")", () -> x.move(e, n), () -> m.move(e, n));
    }

    /** Moves all that stands on the wires, so many times in turn. */
    void moves(int times) {
        for (int i = 0; i < times; i++) {
            move(i & 1, 1 << 20);
        }
    }

    void flip(int e, int at, int with) {
        call("flip(" + e + ", " + at + ", " + with + ")", () -> x.flip(e, at, with), () -> m.flip(e, at, with));
    }

    void inject(int e) {
        call("inject(" + e + ")", () -> x.inject(e), () -> m.inject(e));
    }

    void open(int kind) {
        call("open(" + kind + ")", () -> x.open(kind), () -> m.open(kind));
    }

    void exec(int channel) {
        call("exec(" + channel + ")", () -> x.exec(channel), () -> m.exec(channel));
    }

    void write(int channel, boolean far) {
        call("write(" + channel + ", " + far + ")", () -> x.write(channel, far), () -> m.write(channel, far));
    }

    void read(int channel, int kind, int n) {
        call("read(" + channel + ", " + kind + ", " + n + ")", () -> x.read(channel, kind, n), () -> m.read(channel, kind, n));
    }

    void finish(int channel, int how) {
        call("finish(" + channel + ", " + how + ")", () -> x.finish(channel, how), () -> m.finish(channel, how));
    }

    void rekey(int e) {
        call("rekey(" + e + ")", () -> x.rekey(e), () -> m.rekey(e));
    }

    void quit(int e) {
        call("quit(" + e + ")", () -> x.quit(e), () -> m.quit(e));
    }

    /** The wire to END e holds these bytes, which are not fewer than those there. */
    void rewire(int e, byte[] want) {
        byte[] is = m.endOf(e).wire.all();
        for (int i = 0; i < is.length; i++) {
            if (is[i] != want[i]) {
                flip(e, i, is[i] ^ want[i]);
            }
        }
        tape(Arrays.copyOfRange(want, is.length, want.length)).inject(e);
    }
}
