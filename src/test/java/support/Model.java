import java.util.Arrays;
import java.util.NoSuchElementException;

/** A second ShellPair, on the Java library and with no regard to cost, for ModelTest to compare with. */
final class Model {
    final ModelClient client = new ModelClient();
    final ModelServer server = new ModelServer();
    byte[] tape = {};

    Model() {
        client.other = server;
        server.other = client;
    }

    private static void none(boolean is) {
        if (is) {
            throw new NoSuchElementException();
        }
    }

    private static void wrong(boolean is) {
        if (is) {
            throw new IllegalArgumentException();
        }
    }

    private static void untimely(boolean is) {
        if (is) {
            throw new IllegalStateException();
        }
    }

    ModelEnd endOf(int e) {
        none(e != 0 && e != 1);
        return e == 0 ? client : server;
    }

    private ModelChannel ever(int n) {
        none(n < 0 || n > 15 || client.channels[n] == null);
        return client.channels[n];
    }

    private ModelChannel used(int n) {
        none(!ever(n).inUse());
        return ever(n);
    }

    private ModelChannel far(int port) {
        none(server.connection(port) == null);
        return server.connection(port);
    }

    private byte[] takesTape() {
        byte[] b = tape;
        tape = new byte[0];
        return b;
    }

    int feed(byte[] twenty) {
        untimely(tape.length + 20 > 65536);
        tape = Crypto.join(tape, twenty);
        return tape.length;
    }

    int end(int n) {
        wrong(n < 0 || n > tape.length);
        tape = Arrays.copyOf(tape, n);
        return n;
    }

    void secret(int what) {
        none(what < 0 || what > 4);
        wrong(tape.length != 32);
        byte[] b = takesTape();
        switch (what) {
            case 0, 1 -> endOf(what).reseed(b);
            case 2 -> server.hostSeed = b;
            case 3 -> client.identity = b;
            default -> client.knownHost = b;
        }
    }

    int user(int n, boolean isNew) {
        wrong(n < 1 || n > 32 || n > tape.length || tape.length - n > 64);
        byte[] name = Arrays.copyOf(tape, n);
        byte[] password = Arrays.copyOfRange(tape, n, tape.length);
        wrong(isNew && server.account(name) != null);
        untimely(isNew && server.accounts.size() == 8);
        takesTape();
        if (isNew) {
            ModelServer.Account a = new ModelServer.Account();
            a.name = name;
            a.password = password;
            server.accounts.add(a);
        } else {
            client.user = name;
            client.password = password;
        }
        return server.accounts.size();
    }

    void allow(int k) {
        none(k < 0 || k >= server.accounts.size());
        wrong(tape.length != 32);
        server.accounts.get(k).key = takesTape();
    }

    int set(int e, int what, int v) {
        ModelEnd x = endOf(e);
        none(what < 0 || what > 4);
        wrong(what < 2 && v != 1 && v != 2 && v != 12 && v != 21);
        wrong(what == 2 && (v < 1 || v > 16384) || what == 3 && (v < 16 || v > 32768));
        wrong(what == 4 && (v < 256 || v > 1 << 30));
        int before = x.settings[what];
        x.settings[what] = v;
        return before;
    }

    void port(int port, boolean open) {
        none(port < 1 || port > 65535);
        if (open) {
            server.ports.add(port);
        } else {
            server.ports.remove(port);
        }
    }

    void start() {
        untimely(server.hostSeed == null);
        client.wire.clear();
        server.wire.clear();
        client.start();
        server.start();
    }

    int move(int e, int n) {
        ModelEnd x = endOf(e);
        wrong(n < 1);
        for (int i = Math.min(n, x.wire.size); i > 0; i--) {
            x.take(x.wire.take());
        }
        return x.wire.size;
    }

    private ModelWire wire(int e, int at) {
        ModelWire w = endOf(e).wire;
        if (at < 0 || at >= w.size) {
            throw new IndexOutOfBoundsException();
        }
        return w;
    }

    int flip(int e, int at, int with) {
        wire(e, at).flip(at, with);
        return seen(e, at);
    }

    int seen(int e, int at) {
        return wire(e, at).at(at);
    }

    int inject(int e) {
        ModelWire w = endOf(e).wire;
        untimely(!w.hasRoom(tape.length));
        w.put(takesTape());
        return w.size;
    }

    int open(int kind) {
        wrong(kind < 0 || kind > 65535 || kind != 0 && tape.length > 255);
        untimely(client.state != ModelEnd.OPEN || !client.proven || client.channelsInUse() == 16);
        return client.open(kind, takesTape());
    }

    void exec(int channel) {
        ModelChannel c = used(channel);
        wrong(tape.length > 1000);
        untimely(c.state != ModelChannel.THERE || c.closing || client.state != ModelEnd.OPEN);
        byte[] command = takesTape();
        client.acts(() -> client.exec(c, command));
    }

    int write(int channel, boolean isFar) {
        ModelChannel c = isFar ? far(channel) : used(channel);
        untimely(c.ending || c.closing || c.closeSent || c.out.length + tape.length > 16384);
        c.out = Crypto.join(c.out, takesTape());
        pump(isFar ? server : client, c);
        return c.out.length;
    }

    private static void pump(ModelEnd e, ModelChannel c) {
        e.acts(() -> e.pump(c));
    }

    long read(int channel, int kind, int n) {
        none(kind < 0 || kind > 2);
        ModelChannel c = kind == 2 ? far(channel) : ever(channel);
        wrong(n < 1 || n > 7);
        byte[] all = kind == 1 ? c.errorsIn : c.in;
        int many = Math.min(n, all.length);
        long v = many;
        for (int i = 0; i < 7; i++) {
            v = i < 7 - many ? v << 8 : v << 8 | all[i - 7 + many] & 255;
        }
        byte[] left = Arrays.copyOfRange(all, many, all.length);
        c.in = kind == 1 ? c.in : left;
        c.errorsIn = kind == 1 ? left : c.errorsIn;
        ModelEnd e = kind == 2 ? server : client;
        if (many > 0) {
            e.acts(() -> e.looksAtWindow(c));
        }
        return v;
    }

    void finish(int channel, int how) {
        none(how < 0 || how > 2);
        ModelChannel c = how == 2 ? far(channel) : used(channel);
        untimely(how == 1 ? c.closing : c.ending || c.closing);
        if (how == 1) {
            c.closing = true;
            c.out = new byte[0];
        } else {
            c.ending = true;
        }
        pump(how == 2 ? server : client, c);
    }

    void rekey(int e) {
        ModelEnd x = endOf(e);
        untimely(x.state != ModelEnd.OPEN || x.exchanges == 0 || x.due != 0 || x.sentInit);
        x.acts(x::sendInit);
    }

    void quit(int e) {
        ModelEnd x = endOf(e);
        untimely(x.state != ModelEnd.OPEN);
        x.acts(x::quit);
    }

    int about(int e, int what) {
        ModelEnd x = endOf(e);
        wrong(what < 0 || what > 12);
        return switch (what) {
            case 0 -> x.state;
            case 1 -> x.reason;
            case 2 -> x.sent;
            case 3 -> x.taken;
            case 4 -> x.exchanges;
            case 5 -> x.wire.size;
            case 6 -> x.outward.cipher;
            case 7 -> x.outward.mac;
            case 8 -> x.proven ? 1 : 0;
            case 9 -> x.channelsInUse();
            case 10 -> x == client ? client.asked : server.failures;
            case 11 -> x.session == null ? 0 : (int) new ModelFields(x.session).u32();
            default -> server.store.size();
        };
    }

    int channel(int channel, int what) {
        ModelChannel c = ever(channel);
        wrong(what < 0 || what > 10);
        return c.tells(what);
    }

    int count(int what) {
        return switch (what) {
            case 0 -> tape.length;
            case 1 -> server.accounts.size();
            case 2 -> server.ports.size();
            case 3 -> server.connections();
            case 4 -> server.storeSize();
            default -> -1;
        };
    }
}
