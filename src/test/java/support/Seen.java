import java.util.NoSuchElementException;

/** All that can be seen of a ShellPair, as a text. */
final class Seen {
    private Seen() {
    }

    static String all(ShellPair x) {
        StringBuilder s = new StringBuilder();
        for (int e = 0; e < 2; e++) {
            s.append("END ").append(e).append(':');
            for (int what = 0; what <= 12; what++) {
                s.append(' ').append(x.about(e, what));
            }
            s.append(", the wire to it ").append(wire(x, e)).append('\n');
        }
        for (int n = 0; n < 16; n++) {
            s.append(channel(x, n));
        }
        s.append("count:");
        for (int what = 0; what <= 4; what++) {
            s.append(' ').append(x.count(what));
        }
        return s.toString();
    }

    private static String wire(ShellPair x, int e) {
        Msg m = new Msg();
        int n = x.about(e, 5);
        for (int i = 0; i < n; i++) {
            m.u8(x.seen(e, i));
        }
        return Check.hex(Crypto.sha256(m.bytes()));
    }

    private static String channel(ShellPair x, int n) {
        try {
            StringBuilder s = new StringBuilder("channel " + n + ":");
            for (int what = 0; what <= 10; what++) {
                s.append(' ').append(x.channel(n, what));
            }
            return s.append('\n').toString();
        } catch (NoSuchElementException none) {
            return "";
        }
    }
}
