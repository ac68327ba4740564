import java.util.Arrays;
import java.util.NoSuchElementException;

/** A secure shell between a client and a server, over a wire whose every byte can be held back and altered. */
public final class ShellPair {
    private static final int TAPE_ROOM = 65536;
    private static final int WIRE_ROOM = 131072;
    private static final int WRITE_ROOM = 16384;
    private static final int COMMAND_ROOM = 1000;
    private static final int HOST_ROOM = 255;

    private static final int NONE = -1;

    private static final int CIPHERS = 0;
    private static final int MACS = 1;
    private static final int WINDOW = 2;
    private static final int PACKET = 3;
    private static final int LIMIT = 4;

    private static final String ED25519 = "ssh-ed25519";
    private static final String KEYS = "curve25519-sha256,curve25519-sha256@libssh.org";
    private static final String ASKING = "ssh-userauth";
    private static final String CONNECTION = "ssh-connection";

    private final Bytes tape = new Bytes(256);
    private final Bytes[] wires = new Bytes[2];
    private final Client client;
    private final Server server;

    public ShellPair() {
        Sha2 sha = new Sha2();
        Curve curve = new Curve(sha);
        wires[0] = new Bytes(1024);
        wires[1] = new Bytes(1024);
        client = new Client(wires[1], sha, curve);
        server = new Server(wires[0], sha, curve);
    }

    public int feed(int a, int b, int c, int d, int e) throws IllegalStateException {
        if (tape.size > TAPE_ROOM - 20) {
            throw new IllegalStateException("the tape is full");
        }
        tape.putInt(a);
        tape.putInt(b);
        tape.putInt(c);
        tape.putInt(d);
        tape.putInt(e);
        return tape.size;
    }

    public int end(int n) throws IllegalArgumentException {
        if (n < 0 || n > tape.size) {
            throw new IllegalArgumentException("the tape has not so many bytes");
        }
        tape.cut(n);
        return n;
    }

    public void secret(int what) throws NoSuchElementException, IllegalArgumentException {
        if (what < 0 || what > 4) {
            throw new NoSuchElementException("no such secret");
        }
        if (tape.size != 32) {
            throw new IllegalArgumentException("a secret has 32 bytes");
        }
        if (what == 0) {
            client.chance.reseed(tape);
        } else if (what == 1) {
            server.chance.reseed(tape);
        } else if (what == 2) {
            server.takesHostKey(tape);
        } else if (what == 3) {
            client.takesIdentity(tape);
        } else {
            client.knownHost.become(tape);
        }
        tape.clear();
    }

    public int user(int n, boolean server) throws IllegalArgumentException, IllegalStateException {
        if (n < 1 || n > 32 || n > tape.size || tape.size - n > 64) {
            throw new IllegalArgumentException("no such name or password");
        }
        if (server && this.server.accountOf(tape, 0, n) != NONE) {
            throw new IllegalArgumentException("an account has that name");
        }
        if (server && this.server.accounts == Server.ACCOUNTS) {
            throw new IllegalStateException("no more accounts");
        }
        if (server) {
            this.server.addsAccount(tape, n);
        } else {
            client.becomes(tape, n);
        }
        tape.clear();
        return this.server.accounts;
    }

    public void allow(int k) throws NoSuchElementException, IllegalArgumentException {
        if (k < 0 || k >= server.accounts) {
            throw new NoSuchElementException("no such account");
        }
        if (tape.size != 32) {
            throw new IllegalArgumentException("a key has 32 bytes");
        }
        server.keys[k].become(tape);
        tape.clear();
    }

    public int set(int e, int what, int v) throws NoSuchElementException, IllegalArgumentException {
        End end = endOf(e);
        if (end == null || what < CIPHERS || what > LIMIT) {
            throw new NoSuchElementException("no such end or setting");
        }
        if (!isSetting(what, v)) {
            throw new IllegalArgumentException("no such value");
        }
        int before = end.settings[what];
        end.settings[what] = v;
        end.exchange.listsBy(end.settings[CIPHERS], end.settings[MACS]);
        return before;
    }

    public void port(int port, boolean open) throws NoSuchElementException {
        if (!Server.isPort(port)) {
            throw new NoSuchElementException("no such port");
        }
        server.opensPort(port, open);
    }

    public void start() throws IllegalStateException {
        if (!server.hasHostKey()) {
            throw new IllegalStateException("the server has no host key");
        }
        wires[0].clear();
        wires[1].clear();
        client.begins();
        server.begins();
    }

    public int move(int e, int n) throws NoSuchElementException, IllegalArgumentException {
        End end = endOf(e);
        if (end == null) {
            throw new NoSuchElementException("no such end");
        }
        if (n < 1) {
            throw new IllegalArgumentException("fewer than one byte");
        }
        Bytes wire = wires[e];
        int moved = Math.min(n, wire.size);
        for (int i = 0; i < moved; i++) {
            int number = end.takes(wire.take());
            if (number != NONE) {
                int reason = end.handles(number);
                if (reason != 0) {
                    end.disconnects(reason);
                }
                end.works();
            }
        }
        return wire.size;
    }

    public int flip(int e, int at, int with) throws NoSuchElementException, IndexOutOfBoundsException {
        if (endOf(e) == null) {
            throw new NoSuchElementException("no such end");
        }
        if (at < 0 || at >= wires[e].size) {
            throw new IndexOutOfBoundsException("no such place");
        }
        int b = (wires[e].at(at) ^ with) & 255;
        wires[e].replace(at, b);
        return b;
    }

    public int seen(int e, int at) throws NoSuchElementException, IndexOutOfBoundsException {
        if (endOf(e) == null) {
            throw new NoSuchElementException("no such end");
        }
        if (at < 0 || at >= wires[e].size) {
            throw new IndexOutOfBoundsException("no such place");
        }
        return wires[e].at(at);
    }

    public int inject(int e) throws NoSuchElementException, IllegalStateException {
        if (endOf(e) == null) {
            throw new NoSuchElementException("no such end");
        }
        if (wires[e].size + tape.size > WIRE_ROOM) {
            throw new IllegalStateException("the wire is full");
        }
        wires[e].putAll(tape);
        tape.clear();
        return wires[e].size;
    }

    public int open(int kind) throws IllegalArgumentException, IllegalStateException {
        if (kind < 0 || kind > 65535 || kind != 0 && tape.size > HOST_ROOM) {
            throw new IllegalArgumentException("no such kind or host");
        }
        if (client.state != End.OPEN || !client.proven || client.freeNumber() == NONE) {
            throw new IllegalStateException("no channel can be opened");
        }
        int number = client.asksChannel(kind, tape);
        tape.clear();
        return number;
    }

    public void exec(int channel) throws NoSuchElementException, IllegalArgumentException, IllegalStateException {
        Channel c = client.channelInUse(channel);
        if (c == null) {
            throw new NoSuchElementException("no such channel");
        }
        if (tape.size > COMMAND_ROOM) {
            throw new IllegalArgumentException("the command is too long");
        }
        if (c.state != Channel.THERE || c.is(Channel.CLOSING | Channel.CLOSE_SENT | Channel.CLOSE_HAD)
                || client.state != End.OPEN) {
            throw new IllegalStateException("the channel takes no command");
        }
        client.asksCommand(c, tape);
        tape.clear();
    }

    public int write(int channel, boolean far) throws NoSuchElementException, IllegalStateException {
        Channel c = far ? server.connectionAt(channel) : client.channelInUse(channel);
        if (c == null) {
            throw new NoSuchElementException("no such channel or connection");
        }
        if (c.is(Channel.ENDING | Channel.CLOSING | Channel.CLOSE_SENT) || c.out.size + tape.size > WRITE_ROOM) {
            throw new IllegalStateException("no more can be written");
        }
        c.out.putAll(tape);
        tape.clear();
        if (far) {
            server.works();
        } else {
            client.works();
        }
        return c.out.size;
    }

    public long read(int channel, int kind, int n) throws NoSuchElementException, IllegalArgumentException {
        if (kind < 0 || kind > 2) {
            throw new NoSuchElementException("no such kind");
        }
        Channel c = kind == 2 ? server.connectionAt(channel) : client.channelEver(channel);
        if (c == null) {
            throw new NoSuchElementException("no such channel or connection");
        }
        if (n < 1 || n > 7) {
            throw new IllegalArgumentException("not 1 .. 7 bytes");
        }
        Bytes from = kind == 1 ? c.errors : c.in;
        int many = Math.min(n, from.size);
        long bytes = 0;
        for (int i = 0; i < many; i++) {
            bytes = bytes << 8 | from.take();
        }
        if (many > 0 && kind == 2) {
            server.looksAtWindow(c);
        } else if (many > 0) {
            client.looksAtWindow(c);
        }
        return (long) many << 56 | bytes;
    }

    public void finish(int channel, int how) throws NoSuchElementException, IllegalStateException {
        if (how < 0 || how > 2) {
            throw new NoSuchElementException("no such way to finish");
        }
        Channel c = how == 2 ? server.connectionAt(channel) : client.channelInUse(channel);
        if (c == null) {
            throw new NoSuchElementException("no such channel or connection");
        }
        if (how != 1 && c.is(Channel.ENDING) || how != 2 && c.is(Channel.CLOSING)) {
            throw new IllegalStateException("it was done before");
        }
        if (how == 1) {
            c.mark(Channel.CLOSING);
            c.out.clear();
        } else {
            c.mark(Channel.ENDING);
        }
        if (how == 2) {
            server.works();
        } else {
            client.works();
        }
    }

    public void rekey(int e) throws NoSuchElementException, IllegalStateException {
        End end = endOf(e);
        if (end == null) {
            throw new NoSuchElementException("no such end");
        }
        if (end.state != End.OPEN || end.exchange.complete == 0 || end.exchange.sentInit) {
            throw new IllegalStateException("no exchange can begin");
        }
        end.beginsExchange();
    }

    public void quit(int e) throws NoSuchElementException, IllegalStateException {
        End end = endOf(e);
        if (end == null) {
            throw new NoSuchElementException("no such end");
        }
        if (end.state != End.OPEN) {
            throw new IllegalStateException("the end is not open");
        }
        end.quits();
    }

    public int about(int e, int what) throws NoSuchElementException, IllegalArgumentException {
        End end = endOf(e);
        if (end == null) {
            throw new NoSuchElementException("no such end");
        }
        if (what < 0 || what > 12) {
            throw new IllegalArgumentException("nothing is told of that");
        }
        if (what == 5) {
            return wires[e].size;
        }
        return what == 12 ? server.store.size : end.tells(what);
    }

    public int channel(int channel, int what) throws NoSuchElementException, IllegalArgumentException {
        Channel c = client.channelEver(channel);
        if (c == null) {
            throw new NoSuchElementException("there was no such channel");
        }
        if (what < 0 || what > 10) {
            throw new IllegalArgumentException("nothing is told of that");
        }
        return c.tells(what);
    }

    public int count(int what) {
        if (what == 0) {
            return tape.size;
        }
        if (what == 1) {
            return server.accounts;
        }
        if (what == 2) {
            return server.openPorts();
        }
        if (what == 3) {
            return server.connections();
        }
        return what == 4 ? server.store.total() : NONE;
    }

    private End endOf(int e) {
        if (e == 0) {
            return client;
        }
        return e == 1 ? server : null;
    }

    private static boolean isSetting(int what, int v) {
        if (what == WINDOW) {
            return v >= 1 && v <= 16384;
        }
        if (what == PACKET) {
            return v >= 16 && v <= 32768;
        }
        if (what == LIMIT) {
            return v >= 256 && v <= 1 << 30;
        }
        return v == 1 || v == 2 || v == 12 || v == 21;
    }

    /** A row of bytes that grows at its end and is taken from its front, or is read field by field. */
    private static final class Bytes {
        byte[] data;
        int from;
        int size;
        int cursor;
        boolean bad;
        int textSize;

        Bytes(int room) {
            data = new byte[Math.max(room, 1)];
        }

        void clear() {
            from = 0;
            size = 0;
            cursor = 0;
            bad = false;
            textSize = 0;
        }

        void rewind() {
            cursor = 0;
            bad = false;
            textSize = 0;
        }

        void become(Bytes b) {
            clear();
            putAll(b);
        }

        void cut(int n) {
            if (n >= 0 && n < size) {
                size = n;
            }
        }

        void drop(int n) {
            int gone = Math.max(0, Math.min(n, size));
            size -= gone;
            from = size == 0 ? 0 : from + gone;
        }

        int take() {
            int b = at(0);
            drop(1);
            return b;
        }

        private void makeRoom(int more) {
            if (more < 0 || from + size + more <= data.length) {
                return;
            }
            byte[] before = data;
            if (size + more > data.length) {
                data = new byte[Math.max(2 * data.length, size + more)];
            }
            System.arraycopy(before, from, data, 0, size);
            from = 0;
        }

        void put(int b) {
            makeRoom(1);
            data[from + size] = (byte) b;
            size++;
        }

        void putInt(int v) {
            makeRoom(4);
            for (int shift = 24; shift >= 0; shift -= 8) {
                data[from + size] = (byte) (v >>> shift);
                size++;
            }
        }

        void putText(String s) {
            makeRoom(s.length());
            for (int i = 0; i < s.length(); i++) {
                data[from + size] = (byte) s.charAt(i);
                size++;
            }
        }

        /** The text as a string field, its length first. */
        void putName(String s) {
            putInt(s.length());
            putText(s);
        }

        void putPart(Bytes b, int at, int n) {
            if (at < 0 || n < 0 || n > b.size - at) {
                return;
            }
            makeRoom(n);
            System.arraycopy(b.data, b.from + at, data, from + size, n);
            size += n;
        }

        void putAll(Bytes b) {
            makeRoom(b.size);
            System.arraycopy(b.data, b.from, data, from + size, b.size);
            size += b.size;
        }

        /** All of b as a string field, its length first. */
        void putString(Bytes b) {
            makeRoom(4 + b.size);
            for (int shift = 24; shift >= 0; shift -= 8) {
                data[from + size] = (byte) (b.size >>> shift);
                size++;
            }
            System.arraycopy(b.data, b.from, data, from + size, b.size);
            size += b.size;
        }

        void putArray(byte[] a, int n) {
            int many = Math.max(0, Math.min(n, a.length));
            makeRoom(many);
            System.arraycopy(a, 0, data, from + size, many);
            size += many;
        }

        /** The first n bytes of a as a string field, their number first. */
        void putArrayString(byte[] a, int n) {
            putInt(Math.min(n, a.length));
            putArray(a, n);
        }

        void replace(int at, int b) {
            if (at >= 0 && at < size) {
                data[from + at] = (byte) b;
            }
        }

        int at(int i) {
            return i >= 0 && i < size ? data[from + i] & 255 : 0;
        }

        int intAt(int i) {
            return at(i) << 24 | at(i + 1) << 16 | at(i + 2) << 8 | at(i + 3);
        }

        void copyTo(byte[] a, int at) {
            for (int i = 0; i < a.length; i++) {
                a[i] = (byte) at(at + i);
            }
        }

        int nextByte() {
            if (cursor >= size) {
                bad = true;
                return 0;
            }
            cursor++;
            return at(cursor - 1);
        }

        int nextInt() {
            if (size - cursor < 4) {
                bad = true;
                cursor = size;
                return 0;
            }
            cursor += 4;
            return intAt(cursor - 4);
        }

        /** Where the next string field's bytes begin; textSize tells how many they are. */
        int nextText() {
            int n = nextInt();
            if (bad || n < 0 || n > size - cursor) {
                bad = true;
                textSize = 0;
                return cursor;
            }
            textSize = n;
            cursor += n;
            return cursor - n;
        }

        /** All fields were there, and nothing stands behind them. */
        boolean whole() {
            return !bad && cursor == size;
        }

        boolean same(int at, int n, String s) {
            if (n != s.length()) {
                return false;
            }
            for (int i = 0; i < n; i++) {
                if (at(at + i) != s.charAt(i)) {
                    return false;
                }
            }
            return true;
        }

        boolean samePart(int at, int n, Bytes b, int bAt, int bSize) {
            if (n != bSize) {
                return false;
            }
            for (int i = 0; i < n; i++) {
                if (at(at + i) != b.at(bAt + i)) {
                    return false;
                }
            }
            return true;
        }

        boolean sameArray(int at, int n, byte[] a) {
            if (n != a.length) {
                return false;
            }
            for (int i = 0; i < n; i++) {
                if (at(at + i) != (a[i] & 255)) {
                    return false;
                }
            }
            return true;
        }

        /** Two strings, ssh-ed25519 and one of the given size: the shape of keys and of signatures. */
        boolean hasShape(int at, int n, int size) {
            return n == 8 + ED25519.length() + size && intAt(at) == ED25519.length()
                    && same(at + 4, ED25519.length(), ED25519) && intAt(at + 4 + ED25519.length()) == size;
        }

        int nameEnd(int at, int end) {
            for (int i = at; i < end; i++) {
                if (at(i) == ',') {
                    return i;
                }
            }
            return end;
        }

        boolean listHas(int at, int n, Bytes b, int bAt, int bSize) {
            int end = at + n;
            for (int i = at; i <= end; i++) {
                int stop = nameEnd(i, end);
                if (samePart(i, stop - i, b, bAt, bSize)) {
                    return true;
                }
                i = Math.max(i, stop);
            }
            return false;
        }

        /** Below 0, 0 or above: as these bytes stand before, at or behind those of b. */
        int order(Bytes b) {
            int both = Math.min(size, b.size);
            for (int i = 0; i < both; i++) {
                if (at(i) != b.at(i)) {
                    return at(i) - b.at(i);
                }
            }
            return size - b.size;
        }
    }

    /** SHA-256 and SHA-512 of a head and a text behind it, in one go. */
    private static final class Sha2 {
        private static final int[] ROUND_256 = {
            0x428a2f98, 0x71374491, 0xb5c0fbcf, 0xe9b5dba5, 0x3956c25b, 0x59f111f1, 0x923f82a4, 0xab1c5ed5,
            0xd807aa98, 0x12835b01, 0x243185be, 0x550c7dc3, 0x72be5d74, 0x80deb1fe, 0x9bdc06a7, 0xc19bf174,
            0xe49b69c1, 0xefbe4786, 0x0fc19dc6, 0x240ca1cc, 0x2de92c6f, 0x4a7484aa, 0x5cb0a9dc, 0x76f988da,
            0x983e5152, 0xa831c66d, 0xb00327c8, 0xbf597fc7, 0xc6e00bf3, 0xd5a79147, 0x06ca6351, 0x14292967,
            0x27b70a85, 0x2e1b2138, 0x4d2c6dfc, 0x53380d13, 0x650a7354, 0x766a0abb, 0x81c2c92e, 0x92722c85,
            0xa2bfe8a1, 0xa81a664b, 0xc24b8b70, 0xc76c51a3, 0xd192e819, 0xd6990624, 0xf40e3585, 0x106aa070,
            0x19a4c116, 0x1e376c08, 0x2748774c, 0x34b0bcb5, 0x391c0cb3, 0x4ed8aa4a, 0x5b9cca4f, 0x682e6ff3,
            0x748f82ee, 0x78a5636f, 0x84c87814, 0x8cc70208, 0x90befffa, 0xa4506ceb, 0xbef9a3f7, 0xc67178f2,
        };
        private static final int[] START_256 = {
            0x6a09e667, 0xbb67ae85, 0x3c6ef372, 0xa54ff53a, 0x510e527f, 0x9b05688c, 0x1f83d9ab, 0x5be0cd19,
        };
        private static final long[] ROUND_512 = {
            0x428a2f98d728ae22L, 0x7137449123ef65cdL, 0xb5c0fbcfec4d3b2fL, 0xe9b5dba58189dbbcL,
            0x3956c25bf348b538L, 0x59f111f1b605d019L, 0x923f82a4af194f9bL, 0xab1c5ed5da6d8118L,
            0xd807aa98a3030242L, 0x12835b0145706fbeL, 0x243185be4ee4b28cL, 0x550c7dc3d5ffb4e2L,
            0x72be5d74f27b896fL, 0x80deb1fe3b1696b1L, 0x9bdc06a725c71235L, 0xc19bf174cf692694L,
            0xe49b69c19ef14ad2L, 0xefbe4786384f25e3L, 0x0fc19dc68b8cd5b5L, 0x240ca1cc77ac9c65L,
            0x2de92c6f592b0275L, 0x4a7484aa6ea6e483L, 0x5cb0a9dcbd41fbd4L, 0x76f988da831153b5L,
            0x983e5152ee66dfabL, 0xa831c66d2db43210L, 0xb00327c898fb213fL, 0xbf597fc7beef0ee4L,
            0xc6e00bf33da88fc2L, 0xd5a79147930aa725L, 0x06ca6351e003826fL, 0x142929670a0e6e70L,
            0x27b70a8546d22ffcL, 0x2e1b21385c26c926L, 0x4d2c6dfc5ac42aedL, 0x53380d139d95b3dfL,
            0x650a73548baf63deL, 0x766a0abb3c77b2a8L, 0x81c2c92e47edaee6L, 0x92722c851482353bL,
            0xa2bfe8a14cf10364L, 0xa81a664bbc423001L, 0xc24b8b70d0f89791L, 0xc76c51a30654be30L,
            0xd192e819d6ef5218L, 0xd69906245565a910L, 0xf40e35855771202aL, 0x106aa07032bbd1b8L,
            0x19a4c116b8d2d0c8L, 0x1e376c085141ab53L, 0x2748774cdf8eeb99L, 0x34b0bcb5e19b48a8L,
            0x391c0cb3c5c95a63L, 0x4ed8aa4ae3418acbL, 0x5b9cca4f7763e373L, 0x682e6ff3d6b2b8a3L,
            0x748f82ee5defb2fcL, 0x78a5636f43172f60L, 0x84c87814a1f0ab72L, 0x8cc702081a6439ecL,
            0x90befffa23631e28L, 0xa4506cebde82bde9L, 0xbef9a3f7b2c67915L, 0xc67178f2e372532bL,
            0xca273eceea26619cL, 0xd186b8c721c0c207L, 0xeada7dd6cde0eb1eL, 0xf57d4f7fee6ed178L,
            0x06f067aa72176fbaL, 0x0a637dc5a2c898a6L, 0x113f9804bef90daeL, 0x1b710b35131c471bL,
            0x28db77f523047d84L, 0x32caab7b40c72493L, 0x3c9ebe0a15c9bebcL, 0x431d67c49c100d4cL,
            0x4cc5d4becb3e42b6L, 0x597f299cfc657e2aL, 0x5fcb6fab3ad6faecL, 0x6c44198c4a475817L,
        };
        private static final long[] START_512 = {
            0x6a09e667f3bcc908L, 0xbb67ae8584caa73bL, 0x3c6ef372fe94f82bL, 0xa54ff53a5f1d36f1L,
            0x510e527fade682d1L, 0x9b05688c2b3e6c1fL, 0x1f83d9abfb41bd6bL, 0x5be0cd19137e2179L,
        };

        private final int[] words = new int[64];
        private final int[] sums = new int[8];
        private final long[] longWords = new long[80];
        private final long[] longSums = new long[8];

        /** One method does it all, for it stands at the end of the deepest calls. */
        void digest256(byte[] head, int headSize, byte[] text, int from, int n, byte[] out) {
            if (headSize < 0 || headSize > head.length || from < 0 || n < 0 || n > text.length - from
                    || out.length < 32) {
                return;
            }
            int[] w = words;
            System.arraycopy(START_256, 0, sums, 0, 8);
            int total = headSize + n;
            int blocks = (total + 72) / 64;
            for (int k = 0; k < blocks; k++) {
                for (int i = 64 * k; i < 64 * k + 64; i++) {
                    int last = i == total ? 128 : 0;
                    int v = i < headSize ? head[i] & 255 : i < total ? text[from + i - headSize] & 255 : last;
                    w[i >> 2 & 15] = w[i >> 2 & 15] << 8 | v;
                }
                if (k == blocks - 1) {
                    w[14] = total >>> 29;
                    w[15] = total << 3;
                }
                for (int t = 16; t < 64; t++) {
                    int x = w[t - 15];
                    int y = w[t - 2];
                    int s0 = (x >>> 7 | x << 25) ^ (x >>> 18 | x << 14) ^ x >>> 3;
                    int s1 = (y >>> 17 | y << 15) ^ (y >>> 19 | y << 13) ^ y >>> 10;
                    w[t] = w[t - 16] + s0 + w[t - 7] + s1;
                }
                int a = sums[0], b = sums[1], c = sums[2], d = sums[3];
                int e = sums[4], f = sums[5], g = sums[6], h = sums[7];
                for (int t = 0; t < 64; t++) {
                    int s1 = (e >>> 6 | e << 26) ^ (e >>> 11 | e << 21) ^ (e >>> 25 | e << 7);
                    int s0 = (a >>> 2 | a << 30) ^ (a >>> 13 | a << 19) ^ (a >>> 22 | a << 10);
                    int t1 = h + s1 + (e & f ^ ~e & g) + ROUND_256[t] + w[t];
                    int t2 = s0 + (a & b ^ a & c ^ b & c);
                    h = g;
                    g = f;
                    f = e;
                    e = d + t1;
                    d = c;
                    c = b;
                    b = a;
                    a = t1 + t2;
                }
                sums[0] += a;
                sums[1] += b;
                sums[2] += c;
                sums[3] += d;
                sums[4] += e;
                sums[5] += f;
                sums[6] += g;
                sums[7] += h;
            }
            for (int i = 0; i < 32; i++) {
                out[i] = (byte) (sums[i >> 2] >>> 24 - 8 * (i & 3));
            }
        }

        void digest512(byte[] head, int headSize, byte[] text, int from, int n, byte[] out) {
            if (headSize < 0 || headSize > head.length || from < 0 || n < 0 || n > text.length - from
                    || out.length < 64) {
                return;
            }
            System.arraycopy(START_512, 0, longSums, 0, 8);
            int total = headSize + n;
            int blocks = (total + 144) / 128;
            for (int k = 0; k < blocks; k++) {
                for (int i = 128 * k; i < 128 * k + 128; i++) {
                    int last = i == total ? 128 : 0;
                    int v = i < headSize ? head[i] & 255 : i < total ? text[from + i - headSize] & 255 : last;
                    longWords[i >> 3 & 15] = longWords[i >> 3 & 15] << 8 | v;
                }
                if (k == blocks - 1) {
                    longWords[14] = 0;
                    longWords[15] = 8L * total;
                }
                compress512();
            }
            for (int i = 0; i < 64; i++) {
                out[i] = (byte) (longSums[i >> 3] >>> 56 - 8 * (i & 7));
            }
        }

        private void compress512() {
            long[] w = longWords;
            for (int t = 16; t < 80; t++) {
                long x = w[t - 15];
                long y = w[t - 2];
                long s0 = (x >>> 1 | x << 63) ^ (x >>> 8 | x << 56) ^ x >>> 7;
                long s1 = (y >>> 19 | y << 45) ^ (y >>> 61 | y << 3) ^ y >>> 6;
                w[t] = w[t - 16] + s0 + w[t - 7] + s1;
            }
            long a = longSums[0], b = longSums[1], c = longSums[2], d = longSums[3];
            long e = longSums[4], f = longSums[5], g = longSums[6], h = longSums[7];
            for (int t = 0; t < 80; t++) {
                long s1 = (e >>> 14 | e << 50) ^ (e >>> 18 | e << 46) ^ (e >>> 41 | e << 23);
                long s0 = (a >>> 28 | a << 36) ^ (a >>> 34 | a << 30) ^ (a >>> 39 | a << 25);
                long t1 = h + s1 + (e & f ^ ~e & g) + ROUND_512[t] + w[t];
                long t2 = s0 + (a & b ^ a & c ^ b & c);
                h = g;
                g = f;
                f = e;
                e = d + t1;
                d = c;
                c = b;
                b = a;
                a = t1 + t2;
            }
            longSums[0] += a;
            longSums[1] += b;
            longSums[2] += c;
            longSums[3] += d;
            longSums[4] += e;
            longSums[5] += f;
            longSums[6] += g;
            longSums[7] += h;
        }
    }

    /** AES in counter mode. */
    private static final class Aes {
        private static final int[] BOX = {
            0x63, 0x7c, 0x77, 0x7b, 0xf2, 0x6b, 0x6f, 0xc5, 0x30, 0x01, 0x67, 0x2b, 0xfe, 0xd7, 0xab, 0x76,
            0xca, 0x82, 0xc9, 0x7d, 0xfa, 0x59, 0x47, 0xf0, 0xad, 0xd4, 0xa2, 0xaf, 0x9c, 0xa4, 0x72, 0xc0,
            0xb7, 0xfd, 0x93, 0x26, 0x36, 0x3f, 0xf7, 0xcc, 0x34, 0xa5, 0xe5, 0xf1, 0x71, 0xd8, 0x31, 0x15,
            0x04, 0xc7, 0x23, 0xc3, 0x18, 0x96, 0x05, 0x9a, 0x07, 0x12, 0x80, 0xe2, 0xeb, 0x27, 0xb2, 0x75,
            0x09, 0x83, 0x2c, 0x1a, 0x1b, 0x6e, 0x5a, 0xa0, 0x52, 0x3b, 0xd6, 0xb3, 0x29, 0xe3, 0x2f, 0x84,
            0x53, 0xd1, 0x00, 0xed, 0x20, 0xfc, 0xb1, 0x5b, 0x6a, 0xcb, 0xbe, 0x39, 0x4a, 0x4c, 0x58, 0xcf,
            0xd0, 0xef, 0xaa, 0xfb, 0x43, 0x4d, 0x33, 0x85, 0x45, 0xf9, 0x02, 0x7f, 0x50, 0x3c, 0x9f, 0xa8,
            0x51, 0xa3, 0x40, 0x8f, 0x92, 0x9d, 0x38, 0xf5, 0xbc, 0xb6, 0xda, 0x21, 0x10, 0xff, 0xf3, 0xd2,
            0xcd, 0x0c, 0x13, 0xec, 0x5f, 0x97, 0x44, 0x17, 0xc4, 0xa7, 0x7e, 0x3d, 0x64, 0x5d, 0x19, 0x73,
            0x60, 0x81, 0x4f, 0xdc, 0x22, 0x2a, 0x90, 0x88, 0x46, 0xee, 0xb8, 0x14, 0xde, 0x5e, 0x0b, 0xdb,
            0xe0, 0x32, 0x3a, 0x0a, 0x49, 0x06, 0x24, 0x5c, 0xc2, 0xd3, 0xac, 0x62, 0x91, 0x95, 0xe4, 0x79,
            0xe7, 0xc8, 0x37, 0x6d, 0x8d, 0xd5, 0x4e, 0xa9, 0x6c, 0x56, 0xf4, 0xea, 0x65, 0x7a, 0xae, 0x08,
            0xba, 0x78, 0x25, 0x2e, 0x1c, 0xa6, 0xb4, 0xc6, 0xe8, 0xdd, 0x74, 0x1f, 0x4b, 0xbd, 0x8b, 0x8a,
            0x70, 0x3e, 0xb5, 0x66, 0x48, 0x03, 0xf6, 0x0e, 0x61, 0x35, 0x57, 0xb9, 0x86, 0xc1, 0x1d, 0x9e,
            0xe1, 0xf8, 0x98, 0x11, 0x69, 0xd9, 0x8e, 0x94, 0x9b, 0x1e, 0x87, 0xe9, 0xce, 0x55, 0x28, 0xdf,
            0x8c, 0xa1, 0x89, 0x0d, 0xbf, 0xe6, 0x42, 0x68, 0x41, 0x99, 0x2d, 0x0f, 0xb0, 0x54, 0xbb, 0x16,
        };

        private final int[] mixed = new int[1024];
        private final int[] keys = new int[60];
        private final int[] counter = new int[4];
        private final int[] stream = new int[4];
        private int rounds;

        Aes() {
            for (int i = 0; i < 256; i++) {
                int s = BOX[i];
                int twice = s << 1 ^ ((s & 128) == 0 ? 0 : 0x11b);
                int column = twice << 24 | s << 16 | s << 8 | twice ^ s;
                mixed[i] = column;
                mixed[256 + i] = column >>> 8 | column << 24;
                mixed[512 + i] = column >>> 16 | column << 16;
                mixed[768 + i] = column >>> 24 | column << 8;
            }
        }

        /** Without a key nothing is enciphered. */
        void forgetsKey() {
            rounds = 0;
        }

        /** The key's first bytes count, 16 or 32; the counter begins with iv. */
        void takesKey(byte[] key, int size, byte[] iv) {
            if (size != 16 && size != 32 || key.length < size || iv.length < 16) {
                return;
            }
            int n = size / 4;
            rounds = n + 6;
            for (int i = 0; i < n; i++) {
                keys[i] = wordAt(key, 4 * i);
            }
            int power = 1;
            for (int i = n; i < 4 * rounds + 4; i++) {
                int v = keys[i - 1];
                if (i % n == 0) {
                    v = boxed(v << 8 | v >>> 24) ^ power << 24;
                    power = power << 1 ^ ((power & 128) == 0 ? 0 : 0x11b);
                } else if (n == 8 && i % n == 4) {
                    v = boxed(v);
                }
                keys[i] = keys[i - n] ^ v;
            }
            for (int i = 0; i < 4; i++) {
                counter[i] = wordAt(iv, 4 * i);
            }
        }

        private static int wordAt(byte[] a, int at) {
            return a[at] << 24 | (a[at + 1] & 255) << 16 | (a[at + 2] & 255) << 8 | a[at + 3] & 255;
        }

        private static int boxed(int v) {
            return BOX[v >>> 24] << 24 | BOX[v >>> 16 & 255] << 16 | BOX[v >>> 8 & 255] << 8 | BOX[v & 255];
        }

        /** What is enciphered at once is always whole blocks, so no rest of a block is kept. */
        void crypt(byte[] data, int from, int n) {
            if (rounds == 0 || from < 0 || n < 0 || n > data.length - from) {
                return;
            }
            for (int at = 0; at < n; at += 16) {
                makesStream();
                int many = Math.min(16, n - at);
                for (int i = 0; i < many; i++) {
                    data[from + at + i] ^= (byte) (stream[i >> 2] >>> 24 - 8 * (i & 3));
                }
            }
        }

        private void makesStream() {
            int[] m = mixed;
            int a = counter[0] ^ keys[0];
            int b = counter[1] ^ keys[1];
            int c = counter[2] ^ keys[2];
            int d = counter[3] ^ keys[3];
            int k = 4;
            for (int round = 1; round < rounds; round++) {
                int e = m[a >>> 24] ^ m[256 + (b >>> 16 & 255)] ^ m[512 + (c >>> 8 & 255)] ^ m[768 + (d & 255)];
                int f = m[b >>> 24] ^ m[256 + (c >>> 16 & 255)] ^ m[512 + (d >>> 8 & 255)] ^ m[768 + (a & 255)];
                int g = m[c >>> 24] ^ m[256 + (d >>> 16 & 255)] ^ m[512 + (a >>> 8 & 255)] ^ m[768 + (b & 255)];
                int h = m[d >>> 24] ^ m[256 + (a >>> 16 & 255)] ^ m[512 + (b >>> 8 & 255)] ^ m[768 + (c & 255)];
                a = e ^ keys[k];
                b = f ^ keys[k + 1];
                c = g ^ keys[k + 2];
                d = h ^ keys[k + 3];
                k += 4;
            }
            stream[0] = keys[k] ^ (BOX[a >>> 24] << 24 | BOX[b >>> 16 & 255] << 16
                    | BOX[c >>> 8 & 255] << 8 | BOX[d & 255]);
            stream[1] = keys[k + 1] ^ (BOX[b >>> 24] << 24 | BOX[c >>> 16 & 255] << 16
                    | BOX[d >>> 8 & 255] << 8 | BOX[a & 255]);
            stream[2] = keys[k + 2] ^ (BOX[c >>> 24] << 24 | BOX[d >>> 16 & 255] << 16
                    | BOX[a >>> 8 & 255] << 8 | BOX[b & 255]);
            stream[3] = keys[k + 3] ^ (BOX[d >>> 24] << 24 | BOX[a >>> 16 & 255] << 16
                    | BOX[b >>> 8 & 255] << 8 | BOX[c & 255]);
            boolean carry = true;
            for (int i = 3; i >= 0 && carry; i--) {
                counter[i]++;
                carry = counter[i] == 0;
            }
        }
    }

    /** The bytes that an END takes where another would throw dice. */
    private static final class Chance {
        private final Sha2 sha;
        private final byte[] seedAndNumber = new byte[40];
        private final byte[] block = new byte[32];
        private long number;
        private int used = 32;

        Chance(Sha2 sha) {
            this.sha = sha;
        }

        void reseed(Bytes seed) {
            seed.copyTo(seedAndNumber, 0);
            number = 0;
            used = 32;
        }

        byte next() {
            if (used >= 32) {
                for (int i = 0; i < 8; i++) {
                    seedAndNumber[32 + i] = (byte) (number >>> 56 - 8 * i);
                }
                sha.digest256(seedAndNumber, 40, block, 0, 0, block);
                number++;
                used = 0;
            }
            used++;
            return block[used - 1];
        }
    }

    /**
     * Curve25519: X25519 and Ed25519. An element of the field is ten limbs of 26 and 25 bits in turn, a point
     * X, Y, Z and T with x = X / Z, y = Y / Z and x y = T / Z.
     */
    private static final class Curve {
        private static final long[] D = {
            -10913610, 13857413, -15372611, 6949391, 114729, -8787816, -6275908, -3247719, -18696448, -12055116,
        };
        private static final long[] TWICE_D = {
            -21827239, -5839606, -30745221, 13898782, 229458, 15978800, -12551817, -6495438, 29715968, 9444199,
        };
        private static final long[] ROOT_OF_MINUS_1 = {
            -32595792, -7943725, 9377950, 3500415, 12389472, -272473, -25146209, -2005654, 326686, 11406482,
        };
        private static final long[] BASE_X = {
            -14297830, -7645148, 16144683, -16471763, 27570974, -2696100, -26142465, 8378389, 20764389, 8758491,
        };
        private static final long[] BASE_Y = {
            -26843541, -6710886, 13421773, -13421773, 26843546, 6710886, -13421773, 13421773, -26843546, -6710886,
        };
        private static final long[] ORDER = {
            0xed, 0xd3, 0xf5, 0x5c, 0x1a, 0x63, 0x12, 0x58, 0xd6, 0x9c, 0xf7, 0xa2, 0xde, 0xf9, 0xde, 0x14,
            0, 0, 0, 0, 0, 0, 0, 0, 0, 0, 0, 0, 0, 0, 0, 0x10,
        };

        private final Sha2 sha;
        private final long[][] rows = new long[12][10];
        private final long[][] base = new long[4][10];
        private final long[][] sum = new long[4][10];
        private final long[][] key = new long[4][10];
        private final long[] a24 = new long[10];
        private final long[] wide = new long[64];
        private final byte[] scalar = new byte[32];
        private final byte[] nonce = new byte[32];
        private final byte[] factor = new byte[32];
        private final byte[] zero = new byte[32];
        private final byte[] packed = new byte[32];
        private final byte[] digest = new byte[64];
        private final byte[] head = new byte[64];

        Curve(Sha2 sha) {
            this.sha = sha;
            System.arraycopy(BASE_X, 0, base[0], 0, 10);
            System.arraycopy(BASE_Y, 0, base[1], 0, 10);
            base[2][0] = 1;
            mul(base[3], BASE_X, BASE_Y);
            a24[0] = 121665;
        }

        /** out becomes X25519 of k and u; whether it is not 0. */
        boolean agree(byte[] out, byte[] k, byte[] u) {
            if (out.length != 32 || k.length != 32 || u.length != 32) {
                return false;
            }
            System.arraycopy(k, 0, scalar, 0, 32);
            clamp(scalar);
            long[] x1 = rows[0], x2 = rows[1], z2 = rows[2], x3 = rows[3], z3 = rows[4];
            unpack(x1, u);
            become(x2, 1);
            become(z2, 0);
            unpack(x3, u);
            become(z3, 1);
            for (int t = 254; t >= 0; t--) {
                if ((scalar[t >> 3] >> (t & 7) & 1) == 1) {
                    ladder(x1, x3, z3, x2, z2);
                } else {
                    ladder(x1, x2, z2, x3, z3);
                }
            }
            power(z2, z2, true);
            mul(x2, x2, z2);
            pack(out, x2);
            int all = 0;
            for (int i = 0; i < 32; i++) {
                all |= out[i];
            }
            return all != 0;
        }

        /** (x2, z2) is doubled, and (x3, z3) becomes the sum of both. */
        private void ladder(long[] x1, long[] x2, long[] z2, long[] x3, long[] z3) {
            long[] a = rows[5], b = rows[6], c = rows[7], d = rows[8];
            add(a, x2, z2);
            sub(b, x2, z2);
            add(c, x3, z3);
            sub(d, x3, z3);
            mul(d, d, a);
            mul(c, c, b);
            add(x3, d, c);
            mul(x3, x3, x3);
            sub(z3, d, c);
            mul(z3, z3, z3);
            mul(z3, z3, x1);
            mul(a, a, a);
            mul(b, b, b);
            mul(x2, a, b);
            sub(b, a, b);
            mul(c, b, a24);
            add(a, a, c);
            mul(z2, b, a);
        }

        /** out becomes the public X25519 key of k. */
        void agreeingKey(byte[] out, byte[] k) {
            Arrays.fill(packed, (byte) 0);
            packed[0] = 9;
            agree(out, k, packed);
        }

        /** out becomes the public Ed25519 key of a seed. */
        void publicKey(byte[] out, byte[] seed) {
            if (out.length != 32 || seed.length != 32) {
                return;
            }
            sha.digest512(seed, 32, zero, 0, 0, digest);
            System.arraycopy(digest, 0, scalar, 0, 32);
            clamp(scalar);
            combine(scalar, zero);
            encode(out);
        }

        void sign(byte[] out, byte[] seed, byte[] publicKey, Bytes text) {
            if (out.length != 64 || seed.length != 32 || publicKey.length != 32) {
                return;
            }
            sha.digest512(seed, 32, zero, 0, 0, digest);
            System.arraycopy(digest, 0, scalar, 0, 32);
            clamp(scalar);
            System.arraycopy(digest, 32, head, 0, 32);
            sha.digest512(head, 32, text.data, text.from, text.size, digest);
            reduceDigest(nonce);
            combine(nonce, zero);
            encode(packed);
            System.arraycopy(packed, 0, out, 0, 32);
            System.arraycopy(packed, 0, head, 0, 32);
            System.arraycopy(publicKey, 0, head, 32, 32);
            sha.digest512(head, 64, text.data, text.from, text.size, digest);
            reduceDigest(factor);
            Arrays.fill(wide, 0);
            for (int i = 0; i < 32; i++) {
                wide[i] += nonce[i] & 255;
                for (int j = 0; j < 32; j++) {
                    wide[i + j] += (factor[i] & 255) * (scalar[j] & 255);
                }
            }
            reduce(nonce);
            System.arraycopy(nonce, 0, out, 32, 32);
        }

        boolean verify(byte[] publicKey, byte[] signature, Bytes text) {
            if (publicKey.length != 32 || signature.length != 64) {
                return false;
            }
            System.arraycopy(signature, 32, nonce, 0, 32);
            if (!isBelowOrder(nonce) || !decode(publicKey)) {
                return false;
            }
            System.arraycopy(signature, 0, head, 0, 32);
            System.arraycopy(publicKey, 0, head, 32, 32);
            sha.digest512(head, 64, text.data, text.from, text.size, digest);
            reduceDigest(factor);
            negate(key[0]);
            negate(key[3]);
            combine(nonce, factor);
            encode(packed);
            for (int i = 0; i < 32; i++) {
                if (packed[i] != signature[i]) {
                    return false;
                }
            }
            return true;
        }

        private static void clamp(byte[] k) {
            k[0] = (byte) (k[0] & 248);
            k[31] = (byte) (k[31] & 127 | 64);
        }

        private void reduceDigest(byte[] out) {
            for (int i = 0; i < 64; i++) {
                wide[i] = digest[i] & 255;
            }
            reduce(out);
        }

        /** out becomes what stands in wide, modulo the group's order. */
        private void reduce(byte[] out) {
            for (int i = 63; i >= 32; i--) {
                long carry = 0;
                for (int j = i - 32; j < i - 12; j++) {
                    wide[j] += carry - 16 * wide[i] * ORDER[j - (i - 32)];
                    carry = wide[j] + 128 >> 8;
                    wide[j] -= carry << 8;
                }
                wide[i - 12] += carry;
                wide[i] = 0;
            }
            long carry = 0;
            long top = wide[31] >> 4;
            for (int j = 0; j < 32; j++) {
                wide[j] += carry - top * ORDER[j];
                carry = wide[j] >> 8;
                wide[j] &= 255;
            }
            for (int j = 0; j < 32; j++) {
                wide[j] -= carry * ORDER[j];
            }
            for (int i = 0; i < 32; i++) {
                wide[i + 1] += wide[i] >> 8;
                out[i] = (byte) wide[i];
            }
        }

        private static boolean isBelowOrder(byte[] s) {
            for (int i = 31; i >= 0; i--) {
                if ((s[i] & 255) != ORDER[i]) {
                    return (s[i] & 255) < ORDER[i];
                }
            }
            return false;
        }

        /** sum becomes s times the base point and k times key. */
        private void combine(byte[] s, byte[] k) {
            become(sum[0], 0);
            become(sum[1], 1);
            become(sum[2], 1);
            become(sum[3], 0);
            for (int t = 255; t >= 0; t--) {
                doublePoint(sum);
                if ((s[t >> 3] >> (t & 7) & 1) == 1) {
                    addPoint(sum, base);
                }
                if ((k[t >> 3] >> (t & 7) & 1) == 1) {
                    addPoint(sum, key);
                }
            }
        }

        private void addPoint(long[][] p, long[][] q) {
            long[] a = rows[0], b = rows[1], c = rows[2], d = rows[3], e = rows[4], f = rows[5];
            sub(a, p[1], p[0]);
            sub(e, q[1], q[0]);
            mul(a, a, e);
            add(b, p[1], p[0]);
            add(e, q[1], q[0]);
            mul(b, b, e);
            mul(c, p[3], TWICE_D);
            mul(c, c, q[3]);
            mul(d, p[2], q[2]);
            add(d, d, d);
            sub(e, b, a);
            sub(f, d, c);
            add(d, d, c);
            add(b, b, a);
            mul(p[0], e, f);
            mul(p[1], d, b);
            mul(p[2], f, d);
            mul(p[3], e, b);
        }

        private void doublePoint(long[][] p) {
            long[] a = rows[0], b = rows[1], c = rows[2], e = rows[3], f = rows[4], h = rows[5];
            mul(a, p[0], p[0]);
            mul(b, p[1], p[1]);
            add(c, p[2], p[2]);
            mul(c, c, p[2]);
            add(h, a, b);
            add(e, p[0], p[1]);
            mul(e, e, e);
            sub(e, h, e);
            sub(b, a, b);
            add(f, c, b);
            mul(p[0], e, f);
            mul(p[1], b, h);
            mul(p[2], f, b);
            mul(p[3], e, h);
        }

        /** out becomes the 32 bytes of sum. */
        private void encode(byte[] out) {
            long[] z = rows[0], x = rows[1], y = rows[2];
            power(z, sum[2], true);
            mul(x, sum[0], z);
            mul(y, sum[1], z);
            pack(out, x);
            int odd = out[0] & 1;
            pack(out, y);
            out[31] = (byte) (out[31] | odd << 7);
        }

        /** key becomes the point that these bytes tell; false: they tell none. */
        private boolean decode(byte[] bytes) {
            long[] u = rows[0], v = rows[1], w = rows[2], x = key[0], y = key[1];
            unpack(y, bytes);
            pack(packed, y);
            for (int i = 0; i < 32; i++) {
                if (packed[i] != (byte) (i == 31 ? bytes[i] & 127 : bytes[i])) {
                    return false;
                }
            }
            become(key[2], 1);
            mul(u, y, y);
            mul(v, u, D);
            sub(u, u, key[2]);
            add(v, v, key[2]);
            mul(w, v, v);
            mul(w, w, v);
            mul(x, w, w);
            mul(x, x, v);
            mul(x, x, u);
            power(x, x, false);
            mul(x, x, w);
            mul(x, x, u);
            mul(w, x, x);
            mul(w, w, v);
            if (!isSame(w, u)) {
                negate(u);
                if (!isSame(w, u)) {
                    return false;
                }
                mul(x, x, ROOT_OF_MINUS_1);
            }
            int sign = bytes[31] >> 7 & 1;
            become(u, 0);
            if (sign == 1 && isSame(x, u)) {
                return false;
            }
            pack(packed, x);
            if ((packed[0] & 1) != sign) {
                negate(x);
            }
            mul(key[3], x, y);
            return true;
        }

        private boolean isSame(long[] f, long[] g) {
            sub(rows[5], f, g);
            pack(packed, rows[5]);
            int all = 0;
            for (int i = 0; i < 32; i++) {
                all |= packed[i];
            }
            return all == 0;
        }

        /** out becomes z to the power of p - 2, its inverse, or else of (p - 5) / 8. */
        private void power(long[] out, long[] z, boolean inverse) {
            long[] a = rows[8], b = rows[9], c = rows[10], d = rows[11];
            mul(a, z, z);
            mul(b, a, a);
            mul(b, b, b);
            mul(b, b, z);
            mul(a, a, b);
            mul(c, a, a);
            mul(b, c, b);
            mul(c, b, b);
            for (int i = 1; i < 5; i++) {
                mul(c, c, c);
            }
            mul(b, c, b);
            mul(c, b, b);
            for (int i = 1; i < 10; i++) {
                mul(c, c, c);
            }
            mul(c, c, b);
            mul(d, c, c);
            for (int i = 1; i < 20; i++) {
                mul(d, d, d);
            }
            mul(c, d, c);
            for (int i = 0; i < 10; i++) {
                mul(c, c, c);
            }
            mul(b, c, b);
            mul(c, b, b);
            for (int i = 1; i < 50; i++) {
                mul(c, c, c);
            }
            mul(c, c, b);
            mul(d, c, c);
            for (int i = 1; i < 100; i++) {
                mul(d, d, d);
            }
            mul(c, d, c);
            for (int i = 0; i < 50; i++) {
                mul(c, c, c);
            }
            mul(b, c, b);
            int last = inverse ? 5 : 2;
            for (int i = 0; i < last; i++) {
                mul(b, b, b);
            }
            mul(out, b, inverse ? a : z);
        }

        private static void become(long[] h, long v) {
            Arrays.fill(h, 0);
            h[0] = v;
        }

        private static void add(long[] h, long[] f, long[] g) {
            for (int i = 0; i < 10; i++) {
                h[i] = f[i] + g[i];
            }
        }

        private static void sub(long[] h, long[] f, long[] g) {
            for (int i = 0; i < 10; i++) {
                h[i] = f[i] - g[i];
            }
        }

        private static void negate(long[] h) {
            for (int i = 0; i < 10; i++) {
                h[i] = -h[i];
            }
        }

        private static void mul(long[] h, long[] f, long[] g) {
            long a = f[0], b = f[1], c = f[2], d = f[3], e = f[4], i = f[5], j = f[6], k = f[7], l = f[8], m = f[9];
            long p = g[0], q = g[1], r = g[2], s = g[3], t = g[4], u = g[5], v = g[6], w = g[7], x = g[8], y = g[9];
            long b2 = 2 * b, d2 = 2 * d, i2 = 2 * i, k2 = 2 * k, m2 = 2 * m;
            long q19 = 19 * q, r19 = 19 * r, s19 = 19 * s, t19 = 19 * t, u19 = 19 * u;
            long v19 = 19 * v, w19 = 19 * w, x19 = 19 * x, y19 = 19 * y;
            long h0 = a * p + b2 * y19 + c * x19 + d2 * w19 + e * v19
                    + i2 * u19 + j * t19 + k2 * s19 + l * r19 + m2 * q19;
            long h1 = a * q + b * p + c * y19 + d * x19 + e * w19 + i * v19 + j * u19 + k * t19 + l * s19 + m * r19;
            long h2 = a * r + b2 * q + c * p + d2 * y19 + e * x19 + i2 * w19 + j * v19 + k2 * u19 + l * t19 + m2 * s19;
            long h3 = a * s + b * r + c * q + d * p + e * y19 + i * x19 + j * w19 + k * v19 + l * u19 + m * t19;
            long h4 = a * t + b2 * s + c * r + d2 * q + e * p + i2 * y19 + j * x19 + k2 * w19 + l * v19 + m2 * u19;
            long h5 = a * u + b * t + c * s + d * r + e * q + i * p + j * y19 + k * x19 + l * w19 + m * v19;
            long h6 = a * v + b2 * u + c * t + d2 * s + e * r + i2 * q + j * p + k2 * y19 + l * x19 + m2 * w19;
            long h7 = a * w + b * v + c * u + d * t + e * s + i * r + j * q + k * p + l * y19 + m * x19;
            long h8 = a * x + b2 * w + c * v + d2 * u + e * t + i2 * s + j * r + k2 * q + l * p + m2 * y19;
            long h9 = a * y + b * x + c * w + d * v + e * u + i * t + j * s + k * r + l * q + m * p;
            long n = h0 + (1 << 25) >> 26;
            h1 += n;
            h0 -= n << 26;
            n = h4 + (1 << 25) >> 26;
            h5 += n;
            h4 -= n << 26;
            n = h1 + (1 << 24) >> 25;
            h2 += n;
            h[1] = h1 - (n << 25);
            n = h5 + (1 << 24) >> 25;
            h6 += n;
            h[5] = h5 - (n << 25);
            n = h2 + (1 << 25) >> 26;
            h3 += n;
            h[2] = h2 - (n << 26);
            n = h6 + (1 << 25) >> 26;
            h7 += n;
            h[6] = h6 - (n << 26);
            n = h3 + (1 << 24) >> 25;
            h4 += n;
            h[3] = h3 - (n << 25);
            n = h7 + (1 << 24) >> 25;
            h8 += n;
            h[7] = h7 - (n << 25);
            n = h4 + (1 << 25) >> 26;
            h[5] += n;
            h[4] = h4 - (n << 26);
            n = h8 + (1 << 25) >> 26;
            h9 += n;
            h[8] = h8 - (n << 26);
            n = h9 + (1 << 24) >> 25;
            h0 += 19 * n;
            h[9] = h9 - (n << 25);
            n = h0 + (1 << 25) >> 26;
            h[1] += n;
            h[0] = h0 - (n << 26);
        }

        private static void unpack(long[] h, byte[] bytes) {
            int at = 0;
            for (int i = 0; i < 10; i++) {
                long limb = 0;
                int width = 26 - (i & 1);
                for (int j = 0; j < width; j++) {
                    limb |= (long) (bytes[at >> 3] >> (at & 7) & 1) << j;
                    at++;
                }
                h[i] = limb;
            }
        }

        /** out becomes the 32 bytes of f, which is below p in them. */
        private static void pack(byte[] out, long[] f) {
            long carry = 19 * f[9] + (1 << 24) >> 25;
            for (int i = 0; i < 10; i++) {
                carry = f[i] + carry >> 26 - (i & 1);
            }
            carry *= 19;
            Arrays.fill(out, (byte) 0);
            int at = 0;
            for (int i = 0; i < 10; i++) {
                int width = 26 - (i & 1);
                long limb = f[i] + carry;
                carry = limb >> width;
                for (int j = 0; j < width; j++) {
                    out[at >> 3] = (byte) (out[at >> 3] | (limb >> j & 1) << (at & 7));
                    at++;
                }
            }
        }
    }

    /** One direction of packets: their numbers, how they are enciphered and how they are vouched for. */
    private static final class Flow {
        final byte[] nextIv = new byte[32];
        final byte[] nextKey = new byte[32];
        final byte[] nextMacKey = new byte[32];
        int nextCipher;
        int nextMac;
        final Aes aes = new Aes();
        final byte[] tag = new byte[32];
        int packets;
        int cipher;
        int mac;
        long bytes;
        private final Sha2 sha;
        private final byte[] inner = new byte[68];
        private final byte[] outer = new byte[64];
        private final byte[] half = new byte[32];

        Flow(Sha2 sha) {
            this.sha = sha;
        }

        void begins() {
            packets = 0;
            cipher = 0;
            mac = 0;
            bytes = 0;
            aes.forgetsKey();
        }

        void changesKeys() {
            cipher = nextCipher;
            mac = nextMac;
            bytes = 0;
            aes.takesKey(nextKey, cipher == 1 ? 16 : 32, nextIv);
            for (int i = 0; i < 64; i++) {
                int k = i < 32 ? nextMacKey[i] : 0;
                inner[i] = (byte) (k ^ 0x36);
                outer[i] = (byte) (k ^ 0x5c);
            }
        }

        int block() {
            return cipher == 0 ? 8 : 16;
        }

        /** How many bytes stand open ahead of what is enciphered. */
        int openBytes() {
            return mac == 2 ? 4 : 0;
        }

        /** How many bytes tell the packet's length. */
        int headSize() {
            return mac == 2 ? 4 : block();
        }

        int tagSize() {
            return mac == 0 ? 0 : 32;
        }

        void opensHead(Bytes packet) {
            if (openBytes() == 0) {
                aes.crypt(packet.data, packet.from, headSize());
            }
        }

        /** The packet of n bytes, whose head is open, is opened; false: its MAC is wrong. */
        boolean opens(Bytes packet, int n) {
            if (mac == 2) {
                tags(packet, n);
                if (!packet.sameArray(n, 32, tag)) {
                    return false;
                }
            }
            aes.crypt(packet.data, packet.from + headSize(), n - headSize());
            if (mac == 1) {
                tags(packet, n);
                return packet.sameArray(n, 32, tag);
            }
            return true;
        }

        /** tag becomes the HMAC of the packet's number and its first n bytes. */
        void tags(Bytes packet, int n) {
            if (mac == 0) {
                return;
            }
            for (int i = 0; i < 4; i++) {
                inner[64 + i] = (byte) (packets >>> 24 - 8 * i);
            }
            sha.digest256(inner, 68, packet.data, packet.from, n, half);
            sha.digest256(outer, 64, half, 0, 32, tag);
        }
    }

    /** What an END keeps of the exchange of keys. */
    private static final class Exchange {
        final Bytes lists = new Bytes(256);
        final Bytes own = new Bytes(300);
        final Bytes other = new Bytes(300);
        final Bytes ownLine = new Bytes(32);
        final Bytes otherLine = new Bytes(32);
        final Bytes session = new Bytes(32);
        final Bytes waiting = new Bytes(64);
        final Bytes text = new Bytes(1024);
        final byte[] secret = new byte[32];
        final byte[] ownPublic = new byte[32];
        final byte[] otherPublic = new byte[32];
        final byte[] shared = new byte[32];
        final byte[] hash = new byte[32];
        final int[] chosen = new int[4];
        boolean sentInit;
        boolean holding;
        boolean passesNext;
        int due;
        int complete;
        private final Sha2 sha;

        Exchange(Sha2 sha, String line) {
            this.sha = sha;
            ownLine.putText(line);
            listsBy(12, 21);
        }

        void begins() {
            otherLine.clear();
            session.clear();
            waiting.clear();
            sentInit = false;
            holding = false;
            passesNext = false;
            due = 0;
            complete = 0;
        }

        /** What stands in KEXINIT behind the bytes of chance. */
        void listsBy(int ciphers, int macs) {
            String cipherNames = cipherNames(ciphers);
            String macNames = macNames(macs);
            lists.clear();
            lists.putName(KEYS);
            lists.putName(ED25519);
            lists.putName(cipherNames);
            lists.putName(cipherNames);
            lists.putName(macNames);
            lists.putName(macNames);
            lists.putName("none");
            lists.putName("none");
            lists.putInt(0);
            lists.putInt(0);
            lists.put(0);
            lists.putInt(0);
        }

        private static String cipherNames(int digits) {
            switch (digits) {
                case 1:
                    return "aes128-ctr";
                case 2:
                    return "aes256-ctr";
                case 12:
                    return "aes128-ctr,aes256-ctr";
                default:
                    return "aes256-ctr,aes128-ctr";
            }
        }

        private static String macNames(int digits) {
            switch (digits) {
                case 1:
                    return "hmac-sha2-256";
                case 2:
                    return "hmac-sha2-256-etm@openssh.com";
                case 12:
                    return "hmac-sha2-256,hmac-sha2-256-etm@openssh.com";
                default:
                    return "hmac-sha2-256-etm@openssh.com,hmac-sha2-256";
            }
        }

        void makesInit(Chance chance) {
            sentInit = true;
            holding = true;
            own.clear();
            own.put(20);
            for (int i = 0; i < 16; i++) {
                own.put(chance.next());
            }
            own.putAll(lists);
        }

        /** Whether the other's KEXINIT has the shape of one. */
        boolean fits() {
            toLists(other);
            for (int i = 0; i < 10; i++) {
                other.nextText();
            }
            other.nextByte();
            other.nextInt();
            return other.whole();
        }

        private static void toLists(Bytes init) {
            init.rewind();
            init.cursor = Math.min(17, init.size);
        }

        /** Chooses out of both KEXINITS; false: there is nothing to choose. */
        boolean chooses(boolean isClient) {
            Bytes first = isClient ? own : other;
            Bytes second = isClient ? other : own;
            toLists(first);
            toLists(second);
            for (int i = 0; i < 8; i++) {
                int at = first.nextText();
                int end = at + first.textSize;
                int in = second.nextText();
                int found = firstOfBoth(first, at, end, second, in);
                if (found == NONE) {
                    return false;
                }
                if (i == 2 || i == 3) {
                    chosen[i - 2] = first.at(found + 3) == '1' ? 1 : 2;
                } else if (i == 4 || i == 5) {
                    chosen[i - 2] = first.nameEnd(found, end) - found == 13 ? 1 : 2;
                }
            }
            return true;
        }

        /** Where the first name of the first list begins that the second, at its cursor, has too. */
        private static int firstOfBoth(Bytes first, int at, int end, Bytes second, int in) {
            for (int i = at; i < end; i++) {
                int stop = first.nameEnd(i, end);
                if (second.listHas(in, second.textSize, first, i, stop - i)) {
                    return i;
                }
                i = Math.max(i, stop);
            }
            return NONE;
        }

        /** Whether the other END sends a packet that rests on a wrong guess. */
        boolean guessedWrong() {
            toLists(own);
            toLists(other);
            boolean same = true;
            for (int i = 0; i < 2; i++) {
                int at = own.nextText();
                int n = own.nameEnd(at, at + own.textSize) - at;
                int in = other.nextText();
                int m = other.nameEnd(in, in + other.textSize) - in;
                same = same && own.samePart(at, n, other, in, m);
            }
            for (int i = 0; i < 8; i++) {
                other.nextText();
            }
            return other.nextByte() != 0 && !same;
        }

        void takesSecret(Chance chance, Curve curve) {
            for (int i = 0; i < 32; i++) {
                secret[i] = chance.next();
            }
            curve.agreeingKey(ownPublic, secret);
        }

        void putShared() {
            int zeros = 0;
            while (zeros < 31 && shared[zeros] == 0) {
                zeros++;
            }
            int sign = shared[zeros] < 0 ? 1 : 0;
            text.putInt(32 - zeros + sign);
            if (sign == 1) {
                text.put(0);
            }
            for (int i = zeros; i < 32; i++) {
                text.put(shared[i]);
            }
        }

        /** hash becomes H; the first is the session's id. */
        void hashes(Bytes hostKey, boolean isClient) {
            text.clear();
            text.putString(isClient ? ownLine : otherLine);
            text.putString(isClient ? otherLine : ownLine);
            text.putString(isClient ? own : other);
            text.putString(isClient ? other : own);
            text.putString(hostKey);
            text.putArrayString(isClient ? ownPublic : otherPublic, 32);
            text.putArrayString(isClient ? otherPublic : ownPublic, 32);
            putShared();
            sha.digest256(hash, 0, text.data, text.from, text.size, hash);
            if (session.size == 0) {
                session.putArray(hash, 32);
            }
        }

        /** The keys of a direction wait in its flow till NEWKEYS. */
        void derives(Flow flow, boolean fromClient) {
            int letter = fromClient ? 'A' : 'B';
            flow.nextCipher = chosen[fromClient ? 0 : 1];
            flow.nextMac = chosen[fromClient ? 2 : 3];
            derive(letter, flow.nextIv);
            derive(letter + 2, flow.nextKey);
            derive(letter + 4, flow.nextMacKey);
        }

        private void derive(int letter, byte[] out) {
            text.clear();
            putShared();
            text.putArray(hash, 32);
            text.put(letter);
            text.putAll(session);
            sha.digest256(hash, 0, text.data, text.from, text.size, out);
        }

        int sessionStart() {
            return session.intAt(0);
        }
    }

    /** A channel as one END sees it, and what runs behind it at the server. */
    private static final class Channel {
        static final int UNUSED = -1;
        static final int ASKED = 0;
        static final int THERE = 1;
        static final int REFUSED = 2;
        static final int GONE = 3;

        static final int CAME = 1;
        static final int READ = 2;
        static final int ENDING = 4;
        static final int EOF_SENT = 8;
        static final int CLOSING = 16;
        static final int CLOSE_SENT = 32;
        static final int EOF_HAD = 64;
        static final int CLOSE_HAD = 128;

        static final int MOST_AT_ONCE = 32768;

        final Bytes in = new Bytes(64);
        final Bytes errors = new Bytes(16);
        final Bytes out = new Bytes(64);
        final Bytes command = new Bytes(32);
        int state = UNUSED;
        int port;
        int other;
        long window;
        int greatest;
        int granted;
        int told;
        int stage;
        int status;
        int reason;
        int waiting;
        int answered;
        int refused;
        private int marks;

        void begins(int state, int port, int[] settings) {
            in.clear();
            errors.clear();
            out.clear();
            command.clear();
            this.state = state;
            this.port = port;
            other = 0;
            window = 0;
            greatest = 0;
            granted = settings[WINDOW];
            told = settings[PACKET];
            stage = 0;
            status = NONE;
            reason = 0;
            waiting = 0;
            answered = 0;
            refused = 0;
            marks = 0;
        }

        void isAnswered(int other, int window, int greatest) {
            this.other = other;
            this.window = window & 0xffffffffL;
            this.greatest = greatest < 0 || greatest > MOST_AT_ONCE ? MOST_AT_ONCE : greatest;
        }

        boolean inUse() {
            return state == ASKED || state == THERE;
        }

        /** Whether one of these marks is there. */
        boolean is(int some) {
            return (marks & some) != 0;
        }

        void mark(int one) {
            marks |= one;
        }

        void unmark(int one) {
            marks &= ~one;
        }

        int tells(int what) {
            switch (what) {
                case 0:
                    return state;
                case 1:
                    return reason;
                case 2:
                    return status;
                case 3:
                    return in.size;
                case 4:
                    return errors.size;
                case 5:
                    return out.size;
                case 6:
                    return (int) window;
                case 7:
                    return granted;
                case 8:
                    return is(EOF_HAD | CLOSE_HAD) ? 1 : 0;
                default:
                    return what == 9 ? answered : refused;
            }
        }
    }

    /** What both ENDS do: versions, packets, the exchange of keys, and channels. */
    private abstract static class End {
        static final int OPEN = 1;
        static final int BROKEN = 2;
        static final int CLOSED = 3;

        static final int PROTOCOL_ERROR = 2;
        static final int KEY_EXCHANGE_FAILED = 3;
        static final int MAC_ERROR = 5;
        static final int VERSION_NOT_SUPPORTED = 8;
        static final int LOST = 10;
        static final int BY_APPLICATION = 11;

        static final int CHANNELS = 16;
        static final int WAITING_ROOM = 65536;
        static final int LONGEST_PACKET = 35000;
        static final int LONGEST_LINE = 255;
        static final int LINES_PASSED = 8;
        static final int MANY = 1000000;
        static final int WHOLE = -1;

        final boolean isClient;
        final Bytes wire;
        final Chance chance;
        final Curve curve;
        final Exchange exchange;
        final Flow outward;
        final Flow inward;
        final int[] settings = {12, 21, 4096, 1024, 1 << 30};
        final Channel[] channels = new Channel[CHANNELS];
        final Bytes message = new Bytes(256);
        final Bytes body = new Bytes(256);
        private final Bytes gathered = new Bytes(256);
        private final Bytes packet = new Bytes(256);
        int state;
        int reason;
        boolean proven;
        private int linesPassed;
        private int length;

        End(boolean isClient, Bytes wire, Sha2 sha, Curve curve) {
            this.isClient = isClient;
            this.wire = wire;
            this.curve = curve;
            chance = new Chance(sha);
            exchange = new Exchange(sha, isClient ? "SSH-2.0-client_1" : "SSH-2.0-server_1");
            outward = new Flow(sha);
            inward = new Flow(sha);
            for (int i = 0; i < CHANNELS; i++) {
                channels[i] = new Channel();
            }
        }

        /** A MESSAGE of WHO ASKS has come: the reason to disconnect for, or 0. */
        abstract int answersAsking(int number);

        /** 30 or 31 has come: the reason to disconnect for, or 0. */
        abstract int takesReply();

        abstract void forgetsAsking();

        abstract void firstExchangeIsComplete();

        abstract int takesOpen();

        abstract int takesOpened();

        abstract int takesRefused();

        abstract int takesRequest(Channel c);

        /** Does what may be done now for a channel that is there and that this END has not closed. */
        abstract void worksOn(Channel c);

        /** Does what may be done now for the channels. */
        void works() {
            for (int i = 0; i < CHANNELS && state == OPEN; i++) {
                Channel c = channels[i];
                if (c.state == Channel.THERE && !c.is(Channel.CLOSE_SENT)) {
                    worksOn(c);
                }
            }
        }

        void begins() {
            state = OPEN;
            reason = 0;
            proven = false;
            linesPassed = 0;
            length = 0;
            gathered.clear();
            exchange.begins();
            outward.begins();
            inward.begins();
            forgetsAsking();
            for (int i = 0; i < CHANNELS; i++) {
                channels[i].begins(Channel.UNUSED, 0, settings);
            }
            wire.putAll(exchange.ownLine);
            wire.put('\r');
            wire.put('\n');
            beginsExchange();
        }

        int tells(int what) {
            switch (what) {
                case 0:
                    return state;
                case 1:
                    return reason;
                case 2:
                    return outward.packets;
                case 3:
                    return inward.packets;
                case 4:
                    return exchange.complete;
                case 6:
                    return outward.cipher;
                case 7:
                    return outward.mac;
                case 8:
                    return proven ? 1 : 0;
                case 9:
                    return channelsInUse();
                case 10:
                    return asked();
                default:
                    return exchange.sessionStart();
            }
        }

        /** Failures counted, or 50s made. */
        abstract int asked();

        int channelsInUse() {
            int many = 0;
            for (int i = 0; i < CHANNELS; i++) {
                if (channels[i].inUse()) {
                    many++;
                }
            }
            return many;
        }

        int freeNumber() {
            for (int i = 0; i < CHANNELS; i++) {
                if (!channels[i].inUse()) {
                    return i;
                }
            }
            return NONE;
        }

        /** One byte is taken: the number of the MESSAGE that is whole with it, or NONE. */
        int takes(int b) {
            if (state != OPEN) {
                return NONE;
            }
            gathered.put(b);
            int why = exchange.otherLine.size == 0 ? takesLineByte(b) : takesPacketByte();
            if (why > 0) {
                disconnects(why);
            }
            return why == WHOLE ? body.nextByte() : NONE;
        }

        /** The reason to disconnect for, or 0. */
        private int takesLineByte(int b) {
            if (gathered.size > LONGEST_LINE) {
                return VERSION_NOT_SUPPORTED;
            }
            if (b != '\n') {
                return 0;
            }
            int n = gathered.size - 1;
            if (gathered.at(n - 1) == '\r') {
                n--;
            }
            gathered.cut(n);
            if (isVersion(gathered)) {
                exchange.otherLine.become(gathered);
            } else if (isClient && !gathered.same(0, Math.min(n, 4), "SSH-") && linesPassed < LINES_PASSED) {
                linesPassed++;
            } else {
                return VERSION_NOT_SUPPORTED;
            }
            gathered.clear();
            return 0;
        }

        private static boolean isVersion(Bytes line) {
            for (int i = 0; i < line.size; i++) {
                if (line.at(i) < 32 || line.at(i) > 126) {
                    return false;
                }
            }
            return line.same(0, Math.min(line.size, 8), "SSH-2.0-");
        }

        /** The reason to disconnect for, 0, or WHOLE: a MESSAGE is in body. */
        private int takesPacketByte() {
            int head = inward.headSize();
            if (gathered.size == head) {
                inward.opensHead(gathered);
                length = gathered.intAt(0);
                int counted = length + 4 - inward.openBytes();
                if (length < 12 || length > LONGEST_PACKET || counted % inward.block() != 0) {
                    return PROTOCOL_ERROR;
                }
            }
            if (gathered.size < head || gathered.size < 4 + length + inward.tagSize()) {
                return 0;
            }
            if (!inward.opens(gathered, 4 + length)) {
                return MAC_ERROR;
            }
            int padding = gathered.at(4);
            if (padding < 4 || padding > length - 2) {
                return PROTOCOL_ERROR;
            }
            body.clear();
            body.putPart(gathered, 5, length - 1 - padding);
            gathered.clear();
            inward.packets++;
            if (exchange.passesNext) {
                exchange.passesNext = false;
                return 0;
            }
            return WHOLE;
        }

        /** A MESSAGE has come, its fields in body: the reason to disconnect for, or 0. */
        int handles(int number) {
            if (number >= 1 && number <= 4) {
                return takesPlain(number);
            }
            if (exchange.due != 0) {
                if (number != exchange.due) {
                    return PROTOCOL_ERROR;
                }
                return number == 21 ? takesNewKeys() : takesReply();
            }
            if (number == 20) {
                return takesInit();
            }
            if (!isNamed(number)) {
                message.clear();
                message.put(3);
                message.putInt(inward.packets - 1);
                sends(message);
                return 0;
            }
            if (number < 80) {
                return exchange.complete == 0 ? PROTOCOL_ERROR : answersAsking(number);
            }
            return proven ? answersChannels(number) : PROTOCOL_ERROR;
        }

        private static boolean isNamed(int number) {
            return number == 5 || number == 6 || number == 21 || number == 30 || number == 31
                    || number >= 50 && number <= 52 || number == 60
                    || number >= 80 && number <= 82 || number >= 90 && number <= 100;
        }

        private int takesPlain(int number) {
            int told = number == 1 || number == 3 ? body.nextInt() : 0;
            if (number == 4) {
                body.nextByte();
            }
            if (number != 3) {
                body.nextText();
            }
            if (number == 1 || number == 4) {
                body.nextText();
            }
            if (body.bad) {
                return PROTOCOL_ERROR;
            }
            if (number == 1) {
                state = CLOSED;
                reason = told;
            }
            return 0;
        }

        private int takesInit() {
            exchange.other.become(body);
            if (!exchange.fits()) {
                return PROTOCOL_ERROR;
            }
            exchange.due = isClient ? 31 : 30;
            if (!exchange.sentInit) {
                beginsExchange();
            }
            if (state != OPEN) {
                return 0;
            }
            if (!exchange.chooses(isClient)) {
                return KEY_EXCHANGE_FAILED;
            }
            exchange.passesNext = exchange.guessedWrong();
            if (isClient) {
                exchange.takesSecret(chance, curve);
                message.clear();
                message.put(30);
                message.putArrayString(exchange.ownPublic, 32);
                sends(message);
            }
            return 0;
        }

        private int takesNewKeys() {
            if (!body.whole()) {
                return PROTOCOL_ERROR;
            }
            inward.changesKeys();
            exchange.due = 0;
            exchange.sentInit = false;
            exchange.complete++;
            if (limitIsReached()) {
                beginsExchange();
            }
            if (exchange.complete == 1) {
                firstExchangeIsComplete();
            }
            return 0;
        }

        void beginsExchange() {
            exchange.makesInit(chance);
            sends(exchange.own);
        }

        private boolean limitIsReached() {
            return !exchange.sentInit && outward.bytes >= settings[LIMIT];
        }

        /** 21 is sent, and behind it what waited for it. */
        void sendsNewKeys() {
            message.clear();
            message.put(21);
            sends(message);
            if (state != OPEN) {
                return;
            }
            outward.changesKeys();
            exchange.holding = false;
            Bytes waiting = exchange.waiting;
            for (int i = 0; i < MANY && waiting.size > 4 && state == OPEN; i++) {
                int n = waiting.intAt(0);
                message.clear();
                message.putPart(waiting, 4, n);
                waiting.drop(4 + n);
                sends(message);
            }
        }

        /** The MESSAGE is put on the wire, or waits for NEWKEYS; false: neither. */
        boolean sends(Bytes payload) {
            if (state != OPEN) {
                return false;
            }
            int number = payload.at(0);
            if (exchange.holding && (number > 49 || number > 4 && number < 20)) {
                return waits(payload);
            }
            if (!puts(payload)) {
                return false;
            }
            if (limitIsReached()) {
                exchange.makesInit(chance);
                puts(exchange.own);
            }
            return true;
        }

        private boolean waits(Bytes payload) {
            if (exchange.waiting.size + payload.size + 4 > WAITING_ROOM) {
                isLost();
                return false;
            }
            exchange.waiting.putString(payload);
            return true;
        }

        private boolean puts(Bytes payload) {
            int block = outward.block();
            int open = outward.openBytes();
            int padding = block - (5 - open + payload.size) % block;
            if (padding < 4) {
                padding += block;
            }
            int all = 5 + payload.size + padding + outward.tagSize();
            if (wire.size + all > WIRE_ROOM) {
                isLost();
                return false;
            }
            packet.clear();
            packet.putInt(1 + payload.size + padding);
            packet.put(padding);
            packet.putAll(payload);
            for (int i = 0; i < padding; i++) {
                packet.put(chance.next());
            }
            if (open == 0) {
                outward.tags(packet, packet.size);
            }
            outward.aes.crypt(packet.data, packet.from + open, packet.size - open);
            if (open > 0) {
                outward.tags(packet, packet.size);
            }
            packet.putArray(outward.tag, outward.tagSize());
            wire.putAll(packet);
            outward.packets++;
            outward.bytes += all;
            return true;
        }

        private void isLost() {
            state = BROKEN;
            reason = LOST;
        }

        void disconnects(int why) {
            if (sendsLast(why)) {
                state = BROKEN;
                reason = why;
            }
        }

        void quits() {
            if (sendsLast(BY_APPLICATION)) {
                state = CLOSED;
                reason = BY_APPLICATION;
            }
        }

        /** MESSAGE 1 is put by itself, for behind it nothing is sent, no KEXINIT for LIMIT either. */
        private boolean sendsLast(int why) {
            message.clear();
            message.put(1);
            message.putInt(why);
            message.putInt(0);
            message.putInt(0);
            return state == OPEN && puts(message);
        }

        /** A MESSAGE of CHANNELS has come: the reason to disconnect for, or 0. */
        private int answersChannels(int number) {
            if (number == 80) {
                return takesGlobalRequest();
            }
            if (number == 90) {
                return takesOpen();
            }
            if (number == 91) {
                return takesOpened();
            }
            if (number == 92) {
                return takesRefused();
            }
            if (number < 90) {
                return PROTOCOL_ERROR;
            }
            Channel c = channelThere(body.nextInt());
            if (c == null) {
                return PROTOCOL_ERROR;
            }
            if (number == 94 || number == 95) {
                return takesData(c, number);
            }
            if (number == 98) {
                return takesRequest(c);
            }
            long more = number == 93 ? body.nextInt() & 0xffffffffL : 0;
            if (!body.whole()) {
                return PROTOCOL_ERROR;
            }
            if (number == 93) {
                return takesWindow(c, more);
            }
            if (number == 96) {
                c.mark(Channel.EOF_HAD);
                return 0;
            }
            return number == 97 ? takesClose(c) : takesAnswer(c, number == 99);
        }

        /** The channel with that number, if the other END may still send on it. */
        private Channel channelThere(int number) {
            if (number < 0 || number >= CHANNELS) {
                return null;
            }
            Channel c = channels[number];
            return c.state == Channel.THERE && !c.is(Channel.CLOSE_HAD) ? c : null;
        }

        private int takesGlobalRequest() {
            body.nextText();
            boolean wanted = body.nextByte() != 0;
            if (body.bad) {
                return PROTOCOL_ERROR;
            }
            if (wanted) {
                message.clear();
                message.put(82);
                sends(message);
            }
            return 0;
        }

        private int takesData(Channel c, int number) {
            int kind = number == 95 ? body.nextInt() : 0;
            int at = body.nextText();
            int n = body.textSize;
            if (!body.whole() || c.is(Channel.EOF_HAD) || n > c.granted || n > c.told) {
                return PROTOCOL_ERROR;
            }
            c.granted -= n;
            if (n == 0) {
                return 0;
            }
            if (number == 94) {
                c.in.putPart(body, at, n);
                c.mark(Channel.CAME);
            } else if (isClient && kind == 1) {
                c.errors.putPart(body, at, n);
            } else {
                c.mark(Channel.READ);
            }
            return 0;
        }

        private static int takesWindow(Channel c, long more) {
            if (c.window + more > 0xffffffffL) {
                return PROTOCOL_ERROR;
            }
            c.window += more;
            return 0;
        }

        private int takesClose(Channel c) {
            c.mark(Channel.CLOSE_HAD);
            c.out.clear();
            if (!c.is(Channel.CLOSE_SENT)) {
                putsNumber(97, c);
                if (!sends(message)) {
                    return 0;
                }
            }
            c.state = isClient ? Channel.GONE : Channel.UNUSED;
            return 0;
        }

        private static int takesAnswer(Channel c, boolean done) {
            if (c.waiting == 0) {
                return PROTOCOL_ERROR;
            }
            c.waiting--;
            if (done) {
                c.answered++;
            } else {
                c.refused++;
            }
            return 0;
        }

        /** A message begins with its number and the channel's number at the other END. */
        void putsNumber(int number, Channel c) {
            message.clear();
            message.put(number);
            message.putInt(c.other);
        }

        /** Behind something that was read: the other END may send more, if little is left to it. */
        void looksAtWindow(Channel c) {
            int whole = settings[WINDOW];
            if (c.state != Channel.THERE || c.is(Channel.CLOSE_SENT | Channel.EOF_HAD | Channel.CLOSE_HAD)
                    || c.granted >= whole / 2) {
                return;
            }
            putsNumber(93, c);
            message.putInt(whole - c.granted);
            if (sends(message)) {
                c.granted = whole;
            }
        }

        /** Sends from what waits as much as the other END takes, as 94 or 95. */
        void pours(Channel c, Bytes from, int number) {
            for (int i = 0; i < MANY && from.size > 0; i++) {
                int n = (int) Math.min(Math.min(from.size, c.greatest), c.window);
                if (n == 0) {
                    return;
                }
                putsNumber(number, c);
                if (number == 95) {
                    message.putInt(1);
                }
                message.putInt(n);
                message.putPart(from, 0, n);
                if (!sends(message)) {
                    return;
                }
                c.window -= n;
                from.drop(n);
            }
        }

        /** 96 is sent when no more comes and all is sent. */
        void endsWriting(Channel c) {
            if (c.is(Channel.ENDING) && !c.is(Channel.EOF_SENT) && c.out.size == 0) {
                putsNumber(96, c);
                if (sends(message)) {
                    c.mark(Channel.EOF_SENT);
                }
            }
        }
    }

    private static final class Client extends End {
        private static final int ASKED = 1;
        private static final int ASKED_FOR_KEY = 2;
        private static final int NO_METHOD_LEFT = 14;
        private static final int ANOTHER_HOST_KEY = 9;
        private static final int NOT_ALLOWED = 1;

        final Bytes knownHost = new Bytes(32);
        private final Bytes user = new Bytes(32);
        private final Bytes password = new Bytes(64);
        private final byte[] identity = new byte[32];
        private final byte[] identityPublic = new byte[32];
        private final Bytes askedUser = new Bytes(32);
        private final byte[] askedIdentity = new byte[32];
        private final byte[] askedPublic = new byte[32];
        private final Bytes hostKey = new Bytes(64);
        private final Bytes text = new Bytes(256);
        private final byte[] key = new byte[32];
        private final byte[] signature = new byte[64];
        private boolean hasIdentity;
        private boolean serviceGiven;
        private boolean triedKey;
        private boolean triedPassword;
        private int answerDue;
        private int requests;

        Client(Bytes wire, Sha2 sha, Curve curve) {
            super(true, wire, sha, curve);
        }

        void takesIdentity(Bytes seed) {
            seed.copyTo(identity, 0);
            curve.publicKey(identityPublic, identity);
            hasIdentity = true;
        }

        void becomes(Bytes nameAndPassword, int n) {
            user.clear();
            user.putPart(nameAndPassword, 0, n);
            password.clear();
            password.putPart(nameAndPassword, n, nameAndPassword.size - n);
        }

        void forgetsAsking() {
            serviceGiven = false;
            triedKey = false;
            triedPassword = false;
            answerDue = 0;
            requests = 0;
        }

        int asked() {
            return requests;
        }

        int takesReply() {
            int host = body.nextText();
            int hostSize = body.textSize;
            int point = body.nextText();
            int pointSize = body.textSize;
            int sign = body.nextText();
            int signSize = body.textSize;
            if (!body.whole()) {
                return PROTOCOL_ERROR;
            }
            if (!body.hasShape(host, hostSize, 32) || pointSize != 32 || !body.hasShape(sign, signSize, 64)) {
                return KEY_EXCHANGE_FAILED;
            }
            body.copyTo(exchange.otherPublic, point);
            if (!curve.agree(exchange.shared, exchange.secret, exchange.otherPublic)) {
                return KEY_EXCHANGE_FAILED;
            }
            hostKey.clear();
            hostKey.putPart(body, host, hostSize);
            exchange.hashes(hostKey, true);
            body.copyTo(key, host + hostSize - 32);
            body.copyTo(signature, sign + signSize - 64);
            text.clear();
            text.putArray(exchange.hash, 32);
            if (!curve.verify(key, signature, text)) {
                return KEY_EXCHANGE_FAILED;
            }
            if (knownHost.size == 32 && !knownHost.sameArray(0, 32, key)) {
                return ANOTHER_HOST_KEY;
            }
            exchange.derives(outward, true);
            exchange.derives(inward, false);
            exchange.due = 21;
            sendsNewKeys();
            return 0;
        }

        void firstExchangeIsComplete() {
            message.clear();
            message.put(5);
            message.putName(ASKING);
            sends(message);
        }

        int answersAsking(int number) {
            if (number == 52) {
                return takesSuccess();
            }
            int why = PROTOCOL_ERROR;
            if (number == 6) {
                why = preparesFirst();
            } else if (number == 51 && answerDue != 0) {
                why = preparesNext();
            } else if (number == 60 && answerDue == ASKED_FOR_KEY) {
                why = preparesProof();
            }
            if (why == 0 && sends(message)) {
                requests++;
            }
            return why;
        }

        private int takesSuccess() {
            if (answerDue == 0 || !body.whole()) {
                return PROTOCOL_ERROR;
            }
            answerDue = 0;
            proven = true;
            return 0;
        }

        private int preparesFirst() {
            int at = body.nextText();
            if (!body.whole() || serviceGiven || !body.same(at, body.textSize, ASKING)) {
                return PROTOCOL_ERROR;
            }
            serviceGiven = true;
            beginsAsking("none");
            answerDue = ASKED;
            return 0;
        }

        private void beginsAsking(String method) {
            message.clear();
            message.put(50);
            message.putString(user);
            message.putName(CONNECTION);
            message.putName(method);
        }

        private int preparesNext() {
            int at = body.nextText();
            int n = body.textSize;
            body.nextByte();
            if (!body.whole()) {
                return PROTOCOL_ERROR;
            }
            answerDue = 0;
            if (hasIdentity && !triedKey && isListed(at, n, "publickey")) {
                triedKey = true;
                askedUser.become(user);
                System.arraycopy(identity, 0, askedIdentity, 0, 32);
                System.arraycopy(identityPublic, 0, askedPublic, 0, 32);
                beginsAsking("publickey");
                message.put(0);
                putsKey();
                answerDue = ASKED_FOR_KEY;
                return 0;
            }
            if (password.size > 0 && !triedPassword && isListed(at, n, "password")) {
                triedPassword = true;
                beginsAsking("password");
                message.put(0);
                message.putString(password);
                answerDue = ASKED;
                return 0;
            }
            return NO_METHOD_LEFT;
        }

        private boolean isListed(int at, int n, String method) {
            text.clear();
            text.putText(method);
            return body.listHas(at, n, text, 0, text.size);
        }

        private void putsKey() {
            message.putName(ED25519);
            message.putInt(8 + ED25519.length() + 32);
            message.putName(ED25519);
            message.putArrayString(askedPublic, 32);
        }

        private int preparesProof() {
            int name = body.nextText();
            int nameSize = body.textSize;
            int blob = body.nextText();
            int blobSize = body.textSize;
            if (!body.whole() || !body.same(name, nameSize, ED25519) || !body.hasShape(blob, blobSize, 32)
                    || !body.sameArray(blob + blobSize - 32, 32, askedPublic)) {
                return PROTOCOL_ERROR;
            }
            message.clear();
            message.put(50);
            message.putString(askedUser);
            message.putName(CONNECTION);
            message.putName("publickey");
            message.put(1);
            putsKey();
            text.clear();
            text.putString(exchange.session);
            text.putAll(message);
            curve.sign(signature, askedIdentity, askedPublic, text);
            message.putInt(8 + ED25519.length() + 64);
            message.putName(ED25519);
            message.putArrayString(signature, 64);
            answerDue = ASKED;
            return 0;
        }

        /** The channel with that number that was asked for or is there, or null. */
        Channel channelInUse(int number) {
            Channel c = channelEver(number);
            return c != null && c.inUse() ? c : null;
        }

        /** The channel that has or had that number, or null. */
        Channel channelEver(int number) {
            if (number < 0 || number >= CHANNELS || channels[number].state == Channel.UNUSED) {
                return null;
            }
            return channels[number];
        }

        /** A port of 0 stands for a session. */
        int asksChannel(int port, Bytes host) {
            int number = freeNumber();
            if (number == NONE) {
                return NONE;
            }
            channels[number].begins(Channel.ASKED, port, settings);
            message.clear();
            message.put(90);
            message.putName(port == 0 ? "session" : "direct-tcpip");
            message.putInt(number);
            message.putInt(settings[WINDOW]);
            message.putInt(settings[PACKET]);
            if (port != 0) {
                message.putString(host);
                message.putInt(port);
                message.putName("0.0.0.0");
                message.putInt(0);
            }
            sends(message);
            return number;
        }

        void asksCommand(Channel c, Bytes command) {
            putsNumber(98, c);
            message.putName("exec");
            message.put(1);
            message.putString(command);
            if (sends(message)) {
                c.waiting++;
            }
        }

        int takesOpen() {
            body.nextText();
            int number = body.nextInt();
            body.nextInt();
            body.nextInt();
            if (body.bad) {
                return PROTOCOL_ERROR;
            }
            message.clear();
            message.put(92);
            message.putInt(number);
            message.putInt(NOT_ALLOWED);
            message.putInt(0);
            message.putInt(0);
            sends(message);
            return 0;
        }

        int takesOpened() {
            int number = body.nextInt();
            int other = body.nextInt();
            int window = body.nextInt();
            int greatest = body.nextInt();
            Channel c = channelEver(number);
            if (!body.whole() || c == null || c.state != Channel.ASKED) {
                return PROTOCOL_ERROR;
            }
            c.state = Channel.THERE;
            c.isAnswered(other, window, greatest);
            return 0;
        }

        int takesRefused() {
            int number = body.nextInt();
            int why = body.nextInt();
            body.nextText();
            body.nextText();
            Channel c = channelEver(number);
            if (!body.whole() || c == null || c.state != Channel.ASKED) {
                return PROTOCOL_ERROR;
            }
            c.state = Channel.REFUSED;
            c.reason = why;
            c.out.clear();
            return 0;
        }

        int takesRequest(Channel c) {
            int kind = body.nextText();
            int kindSize = body.textSize;
            boolean wanted = body.nextByte() != 0;
            boolean isStatus = body.same(kind, kindSize, "exit-status");
            int status = isStatus ? body.nextInt() : 0;
            if (body.bad || isStatus && !body.whole()) {
                return PROTOCOL_ERROR;
            }
            if (wanted) {
                putsNumber(100, c);
                sends(message);
            } else if (isStatus) {
                c.status = status;
            }
            return 0;
        }

        void worksOn(Channel c) {
            if (c.is(Channel.CLOSING)) {
                putsNumber(97, c);
                if (sends(message)) {
                    c.mark(Channel.CLOSE_SENT);
                }
                return;
            }
            pours(c, c.out, 94);
            endsWriting(c);
            if (c.is(Channel.READ)) {
                c.unmark(Channel.READ);
                looksAtWindow(c);
            }
        }
    }

    private static final class Server extends End {
        static final int ACCOUNTS = 8;

        private static final int NO_SERVICE = 7;
        private static final int NO_METHOD_LEFT = 14;
        private static final int FAILURES = 6;

        private static final int NO_CONNECTION = 2;
        private static final int UNKNOWN_TYPE = 3;
        private static final int NO_ROOM = 4;

        private static final int MALFORMED = 0;
        private static final int FAILS = 1;
        private static final int FAILS_FREELY = 2;
        private static final int WOULD_DO = 3;
        private static final int RIGHT = 4;

        private static final int ASKED = 1;
        private static final int CAT = 2;
        private static final int PUT = 3;
        private static final int DEAF = 4;
        private static final int DONE = 5;

        final Bytes[] keys = new Bytes[ACCOUNTS];
        final Store store = new Store();
        int accounts;
        private final byte[] hostSecret = new byte[32];
        private final byte[] hostPublic = new byte[32];
        private final Bytes hostKey = new Bytes(64);
        private final Bytes[] names = new Bytes[ACCOUNTS];
        private final Bytes[] passwords = new Bytes[ACCOUNTS];
        private final int[] ports = new int[2048];
        private final Sha2 sha;
        private final Bytes text = new Bytes(256);
        private final byte[] key = new byte[32];
        private final byte[] signature = new byte[64];
        private final byte[] sum = new byte[32];
        private boolean serviceGiven;
        private int failures;

        Server(Bytes wire, Sha2 sha, Curve curve) {
            super(false, wire, sha, curve);
            this.sha = sha;
            for (int i = 0; i < ACCOUNTS; i++) {
                names[i] = new Bytes(32);
                passwords[i] = new Bytes(64);
                keys[i] = new Bytes(32);
            }
        }

        void takesHostKey(Bytes seed) {
            seed.copyTo(hostSecret, 0);
            curve.publicKey(hostPublic, hostSecret);
            hostKey.clear();
            hostKey.putName(ED25519);
            hostKey.putArrayString(hostPublic, 32);
        }

        boolean hasHostKey() {
            return hostKey.size > 0;
        }

        int accountOf(Bytes b, int at, int n) {
            for (int i = 0; i < accounts; i++) {
                if (b.samePart(at, n, names[i], 0, names[i].size)) {
                    return i;
                }
            }
            return NONE;
        }

        void addsAccount(Bytes nameAndPassword, int n) {
            if (accounts < ACCOUNTS) {
                names[accounts].putPart(nameAndPassword, 0, n);
                passwords[accounts].putPart(nameAndPassword, n, nameAndPassword.size - n);
                accounts++;
            }
        }

        static boolean isPort(int port) {
            return port >= 1 && port <= 65535;
        }

        void opensPort(int port, boolean open) {
            int bit = 1 << (port & 31);
            ports[port >> 5] = open ? ports[port >> 5] | bit : ports[port >> 5] & ~bit;
        }

        int openPorts() {
            int many = 0;
            for (int i = 0; i < ports.length; i++) {
                many += Integer.bitCount(ports[i]);
            }
            return many;
        }

        int connections() {
            int many = 0;
            for (int i = 0; i < CHANNELS; i++) {
                if (channels[i].state == Channel.THERE && channels[i].port != 0) {
                    many++;
                }
            }
            return many;
        }

        /** The channel whose connection is at that port, or null. */
        Channel connectionAt(int port) {
            for (int i = 0; i < CHANNELS; i++) {
                if (channels[i].state == Channel.THERE && channels[i].port != 0 && channels[i].port == port) {
                    return channels[i];
                }
            }
            return null;
        }

        void forgetsAsking() {
            serviceGiven = false;
            failures = 0;
        }

        int asked() {
            return failures;
        }

        void firstExchangeIsComplete() {
            // The client asks; the server has nothing to say till then.
        }

        int takesReply() {
            int at = body.nextText();
            int n = body.textSize;
            if (!body.whole()) {
                return PROTOCOL_ERROR;
            }
            if (n != 32) {
                return KEY_EXCHANGE_FAILED;
            }
            body.copyTo(exchange.otherPublic, at);
            exchange.takesSecret(chance, curve);
            if (!curve.agree(exchange.shared, exchange.secret, exchange.otherPublic)) {
                return KEY_EXCHANGE_FAILED;
            }
            exchange.hashes(hostKey, false);
            text.clear();
            text.putArray(exchange.hash, 32);
            curve.sign(signature, hostSecret, hostPublic, text);
            exchange.derives(inward, true);
            exchange.derives(outward, false);
            exchange.due = 21;
            message.clear();
            message.put(31);
            message.putString(hostKey);
            message.putArrayString(exchange.ownPublic, 32);
            message.putInt(8 + ED25519.length() + 64);
            message.putName(ED25519);
            message.putArrayString(signature, 64);
            sends(message);
            sendsNewKeys();
            return 0;
        }

        int answersAsking(int number) {
            if (number == 5) {
                return givesService();
            }
            if (number != 50 || !serviceGiven) {
                return PROTOCOL_ERROR;
            }
            int name = body.nextText();
            int account = accountOf(body, name, body.textSize);
            int service = body.nextText();
            boolean served = body.same(service, body.textSize, CONNECTION);
            int method = body.nextText();
            int methodSize = body.textSize;
            int verdict = FAILS;
            if (body.same(method, methodSize, "none")) {
                verdict = FAILS_FREELY;
            } else if (body.same(method, methodSize, "publickey")) {
                verdict = judgesKey(account);
            } else if (body.same(method, methodSize, "password")) {
                verdict = judgesPassword(account);
            }
            if (body.bad || verdict == MALFORMED || verdict == FAILS_FREELY && !body.whole()) {
                return PROTOCOL_ERROR;
            }
            if (proven) {
                return 0;
            }
            return served ? answersVerdict(verdict) : NO_SERVICE;
        }

        private int givesService() {
            int at = body.nextText();
            if (!body.whole() || proven) {
                return PROTOCOL_ERROR;
            }
            if (!body.same(at, body.textSize, ASKING)) {
                return NO_SERVICE;
            }
            message.clear();
            message.put(6);
            message.putName(ASKING);
            serviceGiven = sends(message);
            return 0;
        }

        private int judgesKey(int account) {
            int flag = body.nextByte();
            int name = body.nextText();
            int nameSize = body.textSize;
            int blob = body.nextText();
            int blobSize = body.textSize;
            int signed = body.cursor;
            int sign = flag == 1 ? body.nextText() : 0;
            int signSize = flag == 1 ? body.textSize : 0;
            if (!body.whole() || flag > 1) {
                return MALFORMED;
            }
            boolean known = account != NONE && body.same(name, nameSize, ED25519)
                    && body.hasShape(blob, blobSize, 32)
                    && body.samePart(blob + blobSize - 32, 32, keys[account], 0, keys[account].size);
            body.copyTo(key, blob + blobSize - 32);
            if (flag == 0) {
                return known ? WOULD_DO : FAILS_FREELY;
            }
            if (!known || !body.hasShape(sign, signSize, 64)) {
                return FAILS;
            }
            body.copyTo(signature, sign + signSize - 64);
            text.clear();
            text.putString(exchange.session);
            text.putPart(body, 0, signed);
            return curve.verify(key, signature, text) ? RIGHT : FAILS;
        }

        private int judgesPassword(int account) {
            boolean changes = body.nextByte() != 0;
            int at = body.nextText();
            int n = body.textSize;
            if (changes) {
                body.nextText();
            }
            if (!body.whole()) {
                return MALFORMED;
            }
            boolean right = !changes && account != NONE && n > 0
                    && body.samePart(at, n, passwords[account], 0, passwords[account].size);
            return right ? RIGHT : FAILS;
        }

        private int answersVerdict(int verdict) {
            message.clear();
            if (verdict == RIGHT) {
                message.put(52);
                proven = sends(message);
                return 0;
            }
            if (verdict == WOULD_DO) {
                message.put(60);
                message.putName(ED25519);
                message.putInt(8 + ED25519.length() + 32);
                message.putName(ED25519);
                message.putArrayString(key, 32);
                sends(message);
                return 0;
            }
            if (verdict == FAILS) {
                failures++;
            }
            message.put(51);
            message.putName("publickey,password");
            message.put(0);
            sends(message);
            return verdict == FAILS && failures == FAILURES && state == OPEN ? NO_METHOD_LEFT : 0;
        }

        int takesOpen() {
            int type = body.nextText();
            int typeSize = body.textSize;
            int other = body.nextInt();
            int window = body.nextInt();
            int greatest = body.nextInt();
            boolean session = body.same(type, typeSize, "session");
            boolean direct = body.same(type, typeSize, "direct-tcpip");
            int port = 0;
            if (direct) {
                body.nextText();
                port = body.nextInt();
                body.nextText();
                body.nextInt();
            }
            if (body.bad || (session || direct) && !body.whole()) {
                return PROTOCOL_ERROR;
            }
            int number = freeNumber();
            int why = number == NONE ? NO_ROOM : !session && !direct ? UNKNOWN_TYPE : 0;
            if (why == 0 && direct && !mayConnect(port)) {
                why = NO_CONNECTION;
            }
            message.clear();
            message.put(why == 0 ? 91 : 92);
            message.putInt(other);
            if (why == 0 && number != NONE) {
                channels[number].begins(Channel.THERE, port, settings);
                channels[number].isAnswered(other, window, greatest);
                message.putInt(number);
                message.putInt(settings[WINDOW]);
                message.putInt(settings[PACKET]);
            } else {
                message.putInt(why);
                message.putInt(0);
                message.putInt(0);
            }
            sends(message);
            return 0;
        }

        private boolean mayConnect(int port) {
            return isPort(port) && (ports[port >> 5] >> (port & 31) & 1) == 1 && connectionAt(port) == null;
        }

        int takesOpened() {
            return PROTOCOL_ERROR;
        }

        int takesRefused() {
            return PROTOCOL_ERROR;
        }

        int takesRequest(Channel c) {
            int kind = body.nextText();
            int kindSize = body.textSize;
            boolean wanted = body.nextByte() != 0;
            boolean isExec = body.same(kind, kindSize, "exec");
            int command = isExec ? body.nextText() : 0;
            int commandSize = isExec ? body.textSize : 0;
            if (body.bad || isExec && !body.whole()) {
                return PROTOCOL_ERROR;
            }
            boolean begins = isExec && c.port == 0 && c.stage == 0;
            if (wanted) {
                putsNumber(begins ? 99 : 100, c);
                sends(message);
            }
            if (begins && state == OPEN) {
                c.command.clear();
                c.command.putPart(body, command, commandSize);
                c.stage = ASKED;
            }
            return 0;
        }

        void worksOn(Channel c) {
            if (c.stage == ASKED) {
                c.stage = stageOf(c.command);
            }
            if (c.is(Channel.CAME) && (c.stage == DEAF || c.stage == DONE)) {
                c.in.clear();
                c.unmark(Channel.CAME);
                looksAtWindow(c);
            }
            if (c.stage == DEAF && state == OPEN) {
                performs(c);
                c.stage = DONE;
                c.mark(Channel.ENDING);
            }
            takesInput(c);
            pours(c, c.out, 94);
            pours(c, c.errors, 95);
            if (c.is(Channel.READ)) {
                c.unmark(Channel.READ);
                looksAtWindow(c);
            }
            if (c.errors.size == 0) {
                endsWriting(c);
            }
            endsChannel(c);
        }

        private void endsChannel(Channel c) {
            if (!c.is(Channel.EOF_SENT)) {
                return;
            }
            if (c.port == 0) {
                putsNumber(98, c);
                message.putName("exit-status");
                message.put(0);
                message.putInt(c.status);
                sends(message);
            }
            if (c.port == 0 || c.is(Channel.EOF_HAD)) {
                putsNumber(97, c);
                if (sends(message)) {
                    c.mark(Channel.CLOSE_SENT);
                }
            }
        }

        /** CAT and PUT take input; all else is DEAF. */
        private static int stageOf(Bytes command) {
            int words = wordsOf(command);
            if (words == 1 && isWord(command, 0, "cat")) {
                return CAT;
            }
            if (words == 2 && isWord(command, 0, "put")
                    && wordSize(command, wordAt(command, 1)) <= Store.LONGEST_NAME) {
                return PUT;
            }
            return DEAF;
        }

        private void takesInput(Channel c) {
            if (c.stage != CAT && c.stage != PUT) {
                return;
            }
            if (c.is(Channel.CAME)) {
                c.unmark(Channel.CAME);
                c.mark(Channel.READ);
            }
            if (c.stage == CAT) {
                c.out.putAll(c.in);
                c.in.clear();
            }
            if (!c.is(Channel.EOF_HAD)) {
                return;
            }
            c.status = 0;
            if (c.stage == PUT) {
                int at = wordAt(c.command, 1);
                if (!store.keeps(c.command, at, wordSize(c.command, at), c.in)) {
                    fails(c, "full", 1);
                }
                c.in.clear();
            }
            c.stage = DONE;
            c.mark(Channel.ENDING);
        }

        private static void fails(Channel c, String why, int status) {
            c.errors.putText(why);
            c.errors.put('\n');
            c.status = status;
        }

        /** A command that takes no input does all at once. */
        private void performs(Channel c) {
            Bytes command = c.command;
            int words = wordsOf(command);
            c.status = 0;
            if (isWord(command, 0, "echo")) {
                echoes(c);
            } else if (isWord(command, 0, "cat") || isWord(command, 0, "ls")) {
                if (words != 1) {
                    fails(c, "usage", 2);
                } else {
                    store.lists(c.out);
                }
            } else if (isWord(command, 0, "exit")) {
                exits(c, words);
            } else if (isWord(command, 0, "put")) {
                fails(c, words == 2 ? "no" : "usage", words == 2 ? 1 : 2);
            } else if (isWord(command, 0, "get") || isWord(command, 0, "rm") || isWord(command, 0, "sum")
                    || isWord(command, 0, "size")) {
                looksUp(c, words);
            } else {
                fails(c, "unknown", 127);
            }
        }

        private static void echoes(Channel c) {
            Bytes command = c.command;
            int first = wordAt(command, 1);
            for (int i = first; i < command.size; i++) {
                if (command.at(i) != ' ') {
                    if (i > first && command.at(i - 1) == ' ') {
                        c.out.put(' ');
                    }
                    c.out.put(command.at(i));
                }
            }
            c.out.put('\n');
        }

        private static void exits(Channel c, int words) {
            int at = wordAt(c.command, 1);
            int n = wordSize(c.command, at);
            boolean right = words == 2 && n >= 1 && n <= 9;
            int value = 0;
            for (int i = 0; i < n && right; i++) {
                int digit = c.command.at(at + i) - '0';
                right = digit >= 0 && digit <= 9;
                value = 10 * value + digit;
            }
            if (right) {
                c.status = value & 255;
            } else {
                fails(c, "usage", 2);
            }
        }

        private void looksUp(Channel c, int words) {
            Bytes command = c.command;
            int at = wordAt(command, 1);
            int place = store.placeOf(command, at, wordSize(command, at));
            if (words != 2) {
                fails(c, "usage", 2);
            } else if (place == NONE) {
                fails(c, "no", 1);
            } else if (isWord(command, 0, "get")) {
                c.out.putAll(store.contents[place]);
            } else if (isWord(command, 0, "rm")) {
                store.removes(place);
            } else if (isWord(command, 0, "sum")) {
                Bytes content = store.contents[place];
                sha.digest256(sum, 0, content.data, content.from, content.size, sum);
                for (int i = 0; i < 64; i++) {
                    int digit = sum[i >> 1] >> 4 - 4 * (i & 1) & 15;
                    c.out.put(digit < 10 ? '0' + digit : 'a' + digit - 10);
                }
                c.out.put('\n');
            } else {
                putsDecimal(c.out, store.contents[place].size);
                c.out.put('\n');
            }
        }

        private static void putsDecimal(Bytes out, int v) {
            int power = 1;
            for (int i = 0; i < 9 && v / power >= 10; i++) {
                power *= 10;
            }
            for (; power > 0; power /= 10) {
                out.put('0' + v / power % 10);
            }
        }

        private static int wordsOf(Bytes command) {
            int many = 0;
            for (int i = 0; i < command.size; i++) {
                if (command.at(i) != ' ' && (i == 0 || command.at(i - 1) == ' ')) {
                    many++;
                }
            }
            return many;
        }

        /** Where the word begins that has k before it; the command's end if there is none. */
        private static int wordAt(Bytes command, int k) {
            int many = 0;
            for (int i = 0; i < command.size; i++) {
                if (command.at(i) != ' ' && (i == 0 || command.at(i - 1) == ' ')) {
                    if (many == k) {
                        return i;
                    }
                    many++;
                }
            }
            return command.size;
        }

        private static int wordSize(Bytes command, int at) {
            for (int i = at; i < command.size; i++) {
                if (command.at(i) == ' ') {
                    return i - at;
                }
            }
            return command.size - at;
        }

        private static boolean isWord(Bytes command, int k, String word) {
            int at = wordAt(command, k);
            return command.same(at, wordSize(command, at), word);
        }
    }

    /** Names, in order of their bytes, and what is kept under them. */
    private static final class Store {
        static final int NAMES = 64;
        static final int LONGEST_NAME = 64;
        static final int ROOM = 16384;

        final Bytes[] names = new Bytes[NAMES];
        final Bytes[] contents = new Bytes[NAMES];
        int size;
        private final Bytes sought = new Bytes(64);

        Store() {
            for (int i = 0; i < NAMES; i++) {
                names[i] = new Bytes(8);
                contents[i] = new Bytes(8);
            }
        }

        int total() {
            int all = 0;
            for (int i = 0; i < size; i++) {
                all += contents[i].size;
            }
            return all;
        }

        int placeOf(Bytes b, int at, int n) {
            for (int i = 0; i < size; i++) {
                if (b.samePart(at, n, names[i], 0, names[i].size)) {
                    return i;
                }
            }
            return NONE;
        }

        /** Whether there was room for it. */
        boolean keeps(Bytes b, int at, int n, Bytes content) {
            int place = placeOf(b, at, n);
            int before = place == NONE ? 0 : contents[place].size;
            if (place == NONE && size == NAMES || total() - before + content.size > ROOM) {
                return false;
            }
            if (place == NONE) {
                sought.clear();
                sought.putPart(b, at, n);
                place = makesPlace();
                names[place].become(sought);
            }
            contents[place].become(content);
            return true;
        }

        /** The names behind what is sought move on by one. */
        private int makesPlace() {
            Bytes name = names[size];
            Bytes content = contents[size];
            int place = size;
            for (; place > 0 && names[place - 1].order(sought) > 0; place--) {
                names[place] = names[place - 1];
                contents[place] = contents[place - 1];
            }
            names[place] = name;
            contents[place] = content;
            size++;
            return place;
        }

        void removes(int place) {
            if (place < 0 || place >= size) {
                return;
            }
            Bytes name = names[place];
            Bytes content = contents[place];
            size--;
            for (int i = place; i < size; i++) {
                names[i] = names[i + 1];
                contents[i] = contents[i + 1];
            }
            names[size] = name;
            contents[size] = content;
        }

        void lists(Bytes out) {
            for (int i = 0; i < size; i++) {
                out.putAll(names[i]);
                out.put('\n');
            }
        }
    }
}
