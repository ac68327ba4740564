import java.util.Arrays;
import javax.crypto.Cipher;

/** The other END, built on the Java library alone: it reads one wire with seen and sends with inject. */
final class Peer {
    static final String[] CIPHERS = {"aes128-ctr", "aes256-ctr"};
    static final String[] MACS = {"hmac-sha2-256", "hmac-sha2-256-etm@openssh.com"};

    final Rig rig;
    /** The END that it plays; the other END is ShellPair's. */
    final int plays;
    byte[] secret = Rig.seed("peer");
    byte[] theirLine;
    byte[] ownLine;
    byte[] theirInit;
    byte[] ownInit;
    byte[] session;
    byte[] hash;
    byte[] shared;
    int cipher = 1;
    int mac = 2;
    /** What the other END sends with; 0: the same as this one. */
    int theirCipher;
    int theirMac;
    int packetsIn;
    int packetsOut;
    private int at;
    private Cipher opener;
    private Cipher sealer;
    private byte[] macIn;
    private byte[] macOut;
    private int[] nextKinds;

    Peer(Rig rig, int plays) {
        this.rig = rig;
        this.plays = plays;
    }

    int other() {
        return 1 - plays;
    }

    /** Starts; the lines and KEXINITS that stand on the wires then are taken as they are. */
    Peer begins() {
        rig.x.start();
        byte[] theirs = rig.wire(plays);
        byte[] own = rig.wire(other());
        theirLine = line(theirs);
        ownLine = line(own);
        at = theirLine.length + 2;
        ownInit = payload(own, ownLine.length + 2);
        packetsOut = 1;
        theirInit = next();
        moves();
        return this;
    }

    void moves() {
        if (rig.x.about(other(), 5) > 0) {
            rig.x.move(other(), 1 << 20);
        }
    }

    private static byte[] line(byte[] wire) {
        int n = 0;
        while (wire[n] != '\r') {
            n++;
        }
        return Arrays.copyOf(wire, n);
    }

    private static byte[] payload(byte[] wire, int from) {
        int length = (int) Msg.from(Arrays.copyOfRange(wire, from, from + 4)).takeInt();
        return Arrays.copyOfRange(wire, from + 5, from + 4 + length - wire[from + 4]);
    }

    /** The next MESSAGE's payload, or null: no more has come. */
    byte[] next() {
        byte[] wire = rig.wire(plays);
        if (at >= wire.length) {
            return null;
        }
        int in = theirMac == 0 ? mac : theirMac;
        byte[] head = Arrays.copyOfRange(wire, at, at + (opener == null ? 8 : in == 2 ? 4 : 16));
        if (opener != null && in == 1) {
            head = opener.update(head);
        }
        int length = (int) Msg.from(head).takeInt();
        int end = at + 4 + length;
        byte[] rest = Arrays.copyOfRange(wire, at + head.length, end);
        byte[] plain = Crypto.join(head, opener == null || rest.length == 0 ? rest : opener.update(rest));
        if (opener != null) {
            byte[] tagged = in == 2 ? Arrays.copyOfRange(wire, at, end) : plain;
            byte[] tag = Crypto.hmac(macIn, new Msg().u32(packetsIn).bytes(), tagged);
            Check.due("MAC of packet " + packetsIn, Arrays.copyOfRange(wire, end, end + 32), tag);
            end += 32;
        }
        checkPadding(plain, in);
        at = end;
        packetsIn++;
        return Arrays.copyOfRange(plain, 5, plain.length - plain[4]);
    }

    private void checkPadding(byte[] plain, int in) {
        int block = opener == null ? 8 : 16;
        int counted = opener != null && in == 2 ? plain.length - 4 : plain.length;
        Check.holds("padding is the least", plain[4] >= 4 && plain[4] < 4 + block && counted % block == 0);
    }

    byte[] sealed(byte[] payload) {
        int block = sealer == null ? 8 : 16;
        int counted = (sealer != null && mac == 2 ? 1 : 5) + payload.length;
        int padding = block - counted % block;
        padding += padding < 4 ? block : 0;
        return sealed(payload, padding);
    }

    byte[] sealed(byte[] payload, int padding) {
        return sealedPlain(
                new Msg().u32(1 + payload.length + padding).u8(padding).raw(payload).raw(new byte[padding]).bytes());
    }

    /** A packet of these bytes, length and all, whether they fit or not. */
    byte[] sealedPlain(byte[] plain) {
        byte[] number = new Msg().u32(packetsOut).bytes();
        packetsOut++;
        if (sealer == null) {
            return plain;
        }
        if (mac == 1) {
            return Crypto.join(sealer.update(plain), Crypto.hmac(macOut, number, plain));
        }
        byte[] sealed = Crypto.join(Arrays.copyOf(plain, 4), sealer.update(Arrays.copyOfRange(plain, 4, plain.length)));
        return Crypto.join(sealed, Crypto.hmac(macOut, number, sealed));
    }

    /** Sends and moves one MESSAGE. */
    Peer send(Msg m) {
        return sendBytes(sealed(m.bytes()));
    }

    /** Sends and moves these bytes as they are. */
    Peer sendBytes(byte[] b) {
        rig.tape(b).x.inject(other());
        moves();
        return this;
    }

    /** The other END has no more to say. */
    void saysNothing(String what) {
        byte[] b = next();
        Check.due(what, b == null ? "nothing" : Check.hex(b), "nothing");
    }

    String state() {
        return rig.state(other());
    }

    /** The client's part of an exchange: all till both have new keys. */
    Peer exchangesAsClient() {
        byte[] own = Crypto.x25519Public(secret);
        send(Msg.of(30).str(own));
        byte[] reply = next();
        Msg m = Msg.from(reply);
        Check.due("MESSAGE 31", m.takeByte(), 31);
        byte[] hostKey = m.takeStr();
        byte[] theirs = m.takeStr();
        byte[] signature = m.takeStr();
        Check.due("K_S", hostKey, blob(Crypto.edPublic(Rig.HOST)));
        shared = Crypto.x25519(secret, theirs);
        hash = Crypto.sha256(new Msg().str(ownLine).str(theirLine).str(ownInit).str(theirInit).str(hostKey).str(own)
                .str(theirs).raw(Crypto.mpint(shared)).bytes());
        Msg s = Msg.from(signature);
        Check.due("signature's name", s.takeText(), "ssh-ed25519");
        Check.holds("signature of H", Crypto.edVerify(Crypto.edPublic(Rig.HOST), hash, s.takeStr()));
        Check.due("MESSAGE 21", next(), new byte[] {21});
        session = session == null ? hash : session;
        opens('B', 'D', 'F');
        send(Msg.of(21));
        seals('A', 'C', 'E');
        return this;
    }

    /** The server's part of an exchange, with what stands in 31 as the test wants it. */
    Peer exchangesAsServer() {
        answers30();
        byte[] signed = Crypto.edSign(Rig.HOST, hash);
        send(Msg.of(31).str(blob(Crypto.edPublic(Rig.HOST))).str(Crypto.x25519Public(secret)).str(blob(signed)));
        Check.due("MESSAGE 21", next(), new byte[] {21});
        opens('A', 'C', 'E');
        send(Msg.of(21));
        seals('B', 'D', 'F');
        return this;
    }

    /** Takes 30 and works out H. */
    void answers30() {
        Msg m = Msg.from(next());
        Check.due("MESSAGE 30", m.takeByte(), 30);
        byte[] theirs = m.takeStr();
        byte[] own = Crypto.x25519Public(secret);
        shared = Crypto.x25519(secret, theirs);
        hash = Crypto.sha256(new Msg().str(theirLine).str(ownLine).str(theirInit).str(ownInit)
                .str(blob(Crypto.edPublic(Rig.HOST))).str(theirs).str(own).raw(Crypto.mpint(shared)).bytes());
        session = session == null ? hash : session;
    }

    private byte[] key(char letter) {
        return Crypto.sha256(Crypto.mpint(shared), hash, new byte[] {(byte) letter}, session);
    }

    /** From the next 21 of each direction on these ciphers and MACS count. */
    void nextKinds(int cipher, int mac, int theirCipher, int theirMac) {
        nextKinds = new int[] {cipher, mac, theirCipher, theirMac};
    }

    private void opens(char iv, char key, char tag) {
        if (nextKinds != null) {
            theirCipher = nextKinds[2];
            theirMac = nextKinds[3];
        }
        int in = theirCipher == 0 ? cipher : theirCipher;
        opener = Crypto.counterMode(Arrays.copyOf(key(key), in == 1 ? 16 : 32), Arrays.copyOf(key(iv), 16));
        macIn = key(tag);
    }

    private void seals(char iv, char key, char tag) {
        if (nextKinds != null) {
            cipher = nextKinds[0];
            mac = nextKinds[1];
        }
        sealer = Crypto.counterMode(Arrays.copyOf(key(key), cipher == 1 ? 16 : 32), Arrays.copyOf(key(iv), 16));
        macOut = key(tag);
    }

    /** string ssh-ed25519, string of what is given: a public key or a signature. */
    static byte[] blob(byte[] b) {
        return new Msg().str("ssh-ed25519").str(b).bytes();
    }

    /** An exchange of keys with the other END, with this MAC in both directions. */
    static Peer with(int plays, int mac) {
        Rig r = Rig.ready();
        r.x.set(1 - plays, 1, mac);
        Peer p = new Peer(r, plays);
        p.mac = mac;
        p.begins();
        return plays == 0 ? p.exchangesAsClient() : p.exchangesAsServer();
    }

    /** A server's ShellPair with this client, with keys. */
    static Peer client(Rig rig) {
        return new Peer(rig, 0).begins().exchangesAsClient();
    }

    /** The same, proven by password. */
    static Peer provenClient(Rig rig) {
        Peer p = client(rig);
        p.send(Msg.of(5).str("ssh-userauth"));
        Check.due("MESSAGE 6", p.next(), Msg.of(6).str("ssh-userauth").bytes());
        p.send(Msg.of(50).str("al").str("ssh-connection").str("password").u8(0).str("pw"));
        Check.due("MESSAGE 52", p.next(), new byte[] {52});
        return p;
    }

    /** A client's ShellPair with this server, with keys. */
    static Peer server(Rig rig) {
        return new Peer(rig, 1).begins().exchangesAsServer();
    }

    /** The same, the client proven. */
    static Peer provenServer(Rig rig) {
        Peer p = server(rig);
        Check.due("MESSAGE 5", p.next(), Msg.of(5).str("ssh-userauth").bytes());
        p.send(Msg.of(6).str("ssh-userauth"));
        Check.due("MESSAGE 50", p.next(), Msg.of(50).str("al").str("ssh-connection").str("none").bytes());
        p.send(Msg.of(52));
        return p;
    }
}
