import java.util.Arrays;

/** Lines, packets and KEXINITS before there are keys, written over what the other END sent. */
final class Plain {
    /** The lists of a KEXINIT behind those of keys and host keys, all with something to choose. */
    static final String[] LISTS = six("aes128-ctr", "aes256-ctr", "hmac-sha2-256", "hmac-sha2-256-etm@openssh.com",
            "none", "none");

    private Plain() {
    }

    /** An END to which these bytes came first. */
    static Rig begun(int e, byte[] b) {
        Rig r = Rig.ready();
        r.x.start();
        byte[] is = r.wire(e);
        byte[] want = b.length >= is.length ? b : Arrays.copyOf(b, is.length);
        r.rewire(e, want);
        r.x.move(e, b.length);
        return r;
    }

    /** The state of END e when these bytes come to it first. */
    static String first(int e, byte[] b) {
        return begun(e, b).state(e);
    }

    /** A line of n bytes that begins and ends so. */
    static byte[] line(int n, String begin, String end) {
        StringBuilder s = new StringBuilder(begin);
        while (s.length() < n - end.length()) {
            s.append('x');
        }
        return Rig.latin(s.append(end).toString());
    }

    static byte[] packet(int padding, byte[] payload) {
        return new Msg().u32(1 + payload.length + padding).u8(padding).raw(payload).raw(new byte[padding]).bytes();
    }

    /** A packet with the least padding. */
    static byte[] packet(byte[] payload) {
        int padding = 8 - (5 + payload.length) % 8;
        return packet(padding < 4 ? padding + 8 : padding, payload);
    }

    /** END e when these bytes come behind the other's line. */
    static Rig behindLine(int e, byte[] b) {
        return begun(e, Crypto.join(Rig.latin(e == 1 ? "SSH-2.0-client_1\r\n" : "SSH-2.0-server_1\r\n"), b));
    }

    /** The server when these bytes come behind the client's line. */
    static Rig behindLine(byte[] b) {
        return behindLine(1, b);
    }

    /** END e when these MESSAGES come first. */
    static Rig sent(int e, Msg... all) {
        byte[] b = new byte[0];
        for (Msg m : all) {
            b = Crypto.join(b, packet(m.bytes()));
        }
        return behindLine(e, b);
    }

    /** The server's state behind these MESSAGES, and how many packets it has taken. */
    static String answered(Msg... all) {
        Rig r = sent(1, all);
        return r.state(1) + "/" + r.x.about(1, 3);
    }

    static Msg init(String keys, String host, String[] six, int follows) {
        Msg m = Msg.of(20).raw(new byte[16]).str(keys).str(host);
        for (String s : six) {
            m.str(s);
        }
        return m.str("").str("").u8(follows).u32(0);
    }

    /** A KEXINIT with which both directions have aes128-ctr and ETM, as Peer has them. */
    static Msg rekeys() {
        return init("curve25519-sha256", "ssh-ed25519", six(LISTS[0], LISTS[0], LISTS[3], LISTS[3], "none", "none"), 0);
    }

    /** A KEXINIT that suits every END. */
    static Msg init() {
        return init("curve25519-sha256", "ssh-ed25519", LISTS, 0);
    }

    static String[] six(String c1, String c2, String m1, String m2, String z1, String z2) {
        return new String[] {c1, c2, m1, m2, z1, z2};
    }
}
