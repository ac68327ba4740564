import java.lang.reflect.Constructor;
import java.lang.reflect.Method;
import java.math.BigInteger;
import java.util.Arrays;

/** Keys, packets and proofs as STANDARDS have them, against an END built on the Java library. */
public final class StandardsTest {
    public static void main(String[] args) throws ReflectiveOperationException {
        eachCipherAndMac();
        anotherInEachDirection();
        wholeSessions();
        publicKeyProof();
        textsOfAllSizes();
        signaturesAtTheOrder();
        keysThatAreNoPoints();
        counterGoesRound();
        Check.close();
    }

    /** Ciphers and MACS of both directions are chosen, and used, each for itself. */
    private static void anotherInEachDirection() {
        for (int i = 0; i < 16; i++) {
            for (int plays = 0; plays <= 1; plays++) {
                Peer p = new Peer(Rig.ready(), plays).begins();
                p = plays == 0 ? p.exchangesAsClient() : p.exchangesAsServer();
                p.rig.x.rekey(1 - plays);
                for (byte[] b = p.next(); b != null; b = p.next()) {
                    p.theirInit = b;
                }
                int[] d = {1 + (i & 1), 1 + (i >> 1 & 1), 1 + (i >> 2 & 1), 1 + (i >> 3)};
                p.ownInit = Plain.init("curve25519-sha256", "ssh-ed25519", Plain.six(Peer.CIPHERS[d[0] - 1], Peer.CIPHERS[d[1] - 1],
                        Peer.MACS[d[2] - 1], Peer.MACS[d[3] - 1], "none", "none"), 0).bytes();
                p.send(new Msg().raw(p.ownInit));
                exchanges(p, d[plays], d[2 + plays], d[1 - plays], d[3 - plays]);
                Check.due("cipher and MAC", p.rig.x.about(1 - plays, 6) + "/" + p.rig.x.about(1 - plays, 7),
                        d[1 - plays] + "/" + d[3 - plays]);
                for (int n = 0; n < 3; n++) {
                    p.send(Msg.of(77));
                    Check.due("both ways", p.next(), Msg.of(3).u32(p.packetsOut - 1).bytes());
                }
            }
        }
    }

    /** The exchange is as before till 21, and these count then. */
    private static void exchanges(Peer p, int cipher, int mac, int theirCipher, int theirMac) {
        p.nextKinds(cipher, mac, theirCipher, theirMac);
        if (p.plays == 0) {
            p.exchangesAsClient();
        } else {
            p.exchangesAsServer();
        }
    }

    private static void eachCipherAndMac() {
        for (int cipher = 1; cipher <= 2; cipher++) {
            for (int mac = 1; mac <= 2; mac++) {
                for (int plays = 0; plays <= 1; plays++) {
                    Rig r = Rig.ready();
                    r.x.set(1 - plays, 0, cipher);
                    r.x.set(1 - plays, 1, mac);
                    Peer p = new Peer(r, plays);
                    p.cipher = cipher;
                    p.mac = mac;
                    p.begins();
                    if (plays == 0) {
                        p.exchangesAsClient();
                        p.send(Msg.of(5).str("ssh-userauth"));
                        Check.due("6", p.next(), Msg.of(6).str("ssh-userauth").bytes());
                    } else {
                        p.exchangesAsServer();
                        Check.due("5", p.next(), Msg.of(5).str("ssh-userauth").bytes());
                    }
                    int e = 1 - plays;
                    Check.due("state", r.state(e), "1/0");
                    Check.due("cipher", r.x.about(e, 6), cipher);
                    Check.due("mac", r.x.about(e, 7), mac);
                    Check.due("exchanges", r.x.about(e, 4), 1);
                    Check.due("session", r.x.about(e, 11), (int) Msg.from(p.session).takeInt());
                    Check.due("packets sent", r.x.about(e, 2), p.packetsIn);
                    Check.due("packets taken", r.x.about(e, 3), p.packetsOut);
                }
            }
        }
    }

    /** Many secrets, so that keys, signatures and shared secrets of all forms come up. */
    private static void wholeSessions() {
        for (int i = 0; i < 40; i++) {
            Rig r = Rig.ready();
            r.secret(0, Rig.seed("client" + i)).secret(1, Rig.seed("server" + i));
            Peer p = new Peer(r, i & 1);
            p.secret = Rig.seed("peer" + i);
            p.begins();
            if (p.plays == 0) {
                p.exchangesAsClient();
            } else {
                p.exchangesAsServer();
            }
            Check.due("exchange " + i, r.x.about(1 - p.plays, 4), 1);
        }
    }

    private static void publicKeyProof() {
        for (int i = 0; i < 10; i++) {
            byte[] seed = Rig.seed("user" + i);
            byte[] blob = Peer.blob(Crypto.edPublic(seed));
            Rig r = Rig.ready().secret(3, seed);
            Peer p = Peer.server(r);
            p.next();
            p.send(Msg.of(6).str("ssh-userauth"));
            p.next();
            p.send(Msg.of(51).str("publickey").u8(0));
            Msg head = Msg.of(50).str("al").str("ssh-connection").str("publickey");
            byte[] asked = head.bytes();
            Check.due("would it do", p.next(), new Msg().raw(asked).u8(0).str("ssh-ed25519").str(blob).bytes());
            p.send(Msg.of(60).str("ssh-ed25519").str(blob));
            byte[] signed = new Msg().raw(asked).u8(1).str("ssh-ed25519").str(blob).bytes();
            byte[] text = new Msg().str(p.session).raw(signed).bytes();
            Check.due("proof", p.next(), new Msg().raw(signed).str(Peer.blob(Crypto.edSign(seed, text))).bytes());

            Rig s = Rig.ready();
            s.tape(Crypto.edPublic(seed)).x.allow(0);
            Peer c = Peer.client(s);
            c.send(Msg.of(5).str("ssh-userauth"));
            c.next();
            text = new Msg().str(c.session).raw(signed).bytes();
            byte[] proof = Crypto.edSign(seed, text);
            byte[] bad = proof.clone();
            bad[i * 6] ^= 16;
            c.send(new Msg().raw(signed).str(Peer.blob(bad)));
            Check.due("wrong proof", c.next(), Msg.of(51).str("publickey,password").u8(0).bytes());
            c.send(new Msg().raw(signed).str(Peer.blob(proof)));
            Check.due("right proof", c.next(), new byte[] {52});
            Check.due("failures", s.x.about(1, 10), 1);
        }
    }

    /** Names of 1 .. 32 bytes: what is signed has all sizes around the ends of SHA-512's blocks. */
    private static void textsOfAllSizes() {
        byte[] blob = Peer.blob(Crypto.edPublic(Rig.IDENTITY));
        for (int n = 1; n <= 32; n++) {
            String name = "u".repeat(n);
            Rig r = new Rig().secret(2, Rig.HOST);
            r.tape(name).x.user(n, true);
            r.tape(Crypto.edPublic(Rig.IDENTITY)).x.allow(0);
            Peer p = Peer.client(r);
            p.send(Msg.of(5).str("ssh-userauth"));
            p.next();
            byte[] signed = Msg.of(50).str(name).str("ssh-connection").str("publickey").u8(1).str("ssh-ed25519").str(blob).bytes();
            byte[] proof = Crypto.edSign(Rig.IDENTITY, new Msg().str(p.session).raw(signed).bytes());
            p.send(new Msg().raw(signed).str(Peer.blob(proof)));
            Check.due("proof of a name of " + n, p.next(), new byte[] {52});

            Rig s = new Rig().secret(2, Rig.HOST).secret(3, Rig.IDENTITY);
            s.tape(name).x.user(n, false);
            Peer q = Peer.server(s);
            q.next();
            q.send(Msg.of(6).str("ssh-userauth"));
            q.next();
            q.send(Msg.of(51).str("publickey").u8(0));
            q.next();
            q.send(Msg.of(60).str("ssh-ed25519").str(blob));
            proof = Crypto.edSign(Rig.IDENTITY, new Msg().str(q.session).raw(signed).bytes());
            Check.due("made for a name of " + n, q.next(), new Msg().raw(signed).str(Peer.blob(proof)).bytes());
        }
    }

    /** The reason of a client that knows another host key: 9 if the signature is right with this key, 3 if it is not. */
    private static int reason(byte[] key, byte[] first, byte[] second) {
        Peer p = new Peer(Rig.ready(), 1).begins();
        p.answers30();
        p.send(Msg.of(31).str(Peer.blob(key)).str(Crypto.x25519Public(p.secret)).str(Peer.blob(Crypto.join(first, second))));
        return p.rig.x.about(0, 1);
    }

    /** RFC 8032: S is 0 .. the order less 1. With the neutral point as key R is S times the base, whatever is signed. */
    private static void signaturesAtTheOrder() {
        byte[] neutral = Crypto.little(BigInteger.ONE);
        byte[] base = Crypto.bytes("58" + "66".repeat(31));
        byte[] minus = base.clone();
        minus[31] |= (byte) 128;
        BigInteger[] all = {BigInteger.ZERO, Crypto.ORDER, Crypto.ORDER.add(Crypto.ORDER), BigInteger.ONE.shiftLeft(255)};
        for (BigInteger s : all) {
            Check.due("S " + s, reason(neutral, neutral, Crypto.little(s)), s.signum() == 0 ? 9 : 3);
        }
        Check.due("S 1", reason(neutral, base, Crypto.little(BigInteger.ONE)), 9);
        Check.due("S 1, another R", reason(neutral, minus, Crypto.little(BigInteger.ONE)), 3);
        Check.due("the order and 1", reason(neutral, base, Crypto.little(Crypto.ORDER.add(BigInteger.ONE))), 3);
        Check.due("the order less 1", reason(neutral, minus, Crypto.little(Crypto.ORDER.subtract(BigInteger.ONE))), 9);
        Check.due("the most", reason(neutral, minus, Crypto.little(BigInteger.ONE.shiftLeft(256).subtract(BigInteger.ONE))), 3);
    }

    /** RFC 8032 5.1.3: y is below 2^255 - 19, it is a point's, and x of 0 has no sign. */
    private static void keysThatAreNoPoints() {
        BigInteger p = BigInteger.ONE.shiftLeft(255).subtract(BigInteger.valueOf(19));
        byte[] neutral = Crypto.little(BigInteger.ONE);
        byte[] zero = new byte[32];
        Check.due("y 1", reason(neutral, neutral, zero), 9);
        Check.due("y 1 and 2^255 - 19", reason(Crypto.little(p.add(BigInteger.ONE)), neutral, zero), 3);
        Check.due("y 1 with a sign", reason(Crypto.little(BigInteger.ONE.setBit(255)), neutral, zero), 3);
        Check.due("R 1 with a sign", reason(neutral, Crypto.little(BigInteger.ONE.setBit(255)), zero), 3);
        Check.due("R 1 and 2^255 - 19", reason(neutral, Crypto.little(p.add(BigInteger.ONE)), zero), 3);
        for (int y : new int[] {2, 7, 8}) {
            Check.due("no point has y " + y, reason(Crypto.little(BigInteger.valueOf(y)), neutral, zero), 3);
        }
    }

    /** RFC 4344: the counter has 128 bits and goes round. No calls reach that, so the class's own is looked at. */
    private static void counterGoesRound() throws ReflectiveOperationException {
        Class<?> aes = Class.forName("ShellPair$Aes");
        Constructor<?> make = aes.getDeclaredConstructor();
        make.setAccessible(true);
        Method takesKey = aes.getDeclaredMethod("takesKey", byte[].class, int.class, byte[].class);
        Method crypt = aes.getDeclaredMethod("crypt", byte[].class, int.class, int.class);
        takesKey.setAccessible(true);
        crypt.setAccessible(true);
        for (int ones = 0; ones <= 16; ones++) {
            for (int size = 16; size <= 32; size += 16) {
                byte[] iv = Arrays.copyOf(Rig.seed("iv"), 16);
                Arrays.fill(iv, 16 - ones, 16, (byte) 255);
                byte[] key = Rig.seed("key" + ones);
                Object a = make.newInstance();
                takesKey.invoke(a, key, size, iv);
                byte[] got = new byte[64];
                crypt.invoke(a, got, 0, 64);
                byte[] due = Crypto.counterMode(Arrays.copyOf(key, size), iv).update(new byte[64]);
                Check.due("counter with " + ones + " bytes of ones, key of " + size, got, due);
            }
        }
    }
}
