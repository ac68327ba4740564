/** Keys, packets and proofs as STANDARDS have them, against an END built on the Java library. */
public final class StandardsTest {
    public static void main(String[] args) {
        eachCipherAndMac();
        wholeSessions();
        publicKeyProof();
        Check.close();
    }

    private static void eachCipherAndMac() {
        for (int cipher = 1; cipher <= 2; cipher++) {
            for (int mac = 1; mac <= 2; mac++) {
                for (int plays = 0; plays <= 1; plays++) {
                    Rig r = Rig.ready();
                    r.x.set(1 - plays, 0, cipher);
                    r.x.set(1 - plays, 1, mac);
                    Peer p = new Peer(r, plays);
                    p.cipher = cipher;
                    p.mac = mac;
                    p.begins();
                    if (plays == 0) {
                        p.exchangesAsClient();
                        p.send(Msg.of(5).str("ssh-userauth"));
                        Check.due("6", p.next(), Msg.of(6).str("ssh-userauth").bytes());
                    } else {
                        p.exchangesAsServer();
                        Check.due("5", p.next(), Msg.of(5).str("ssh-userauth").bytes());
                    }
                    int e = 1 - plays;
                    Check.due("state", r.state(e), "1/0");
                    Check.due("cipher", r.x.about(e, 6), cipher);
                    Check.due("mac", r.x.about(e, 7), mac);
                    Check.due("exchanges", r.x.about(e, 4), 1);
                    Check.due("session", r.x.about(e, 11), (int) Msg.from(p.session).takeInt());
                    Check.due("packets sent", r.x.about(e, 2), p.packetsIn);
                    Check.due("packets taken", r.x.about(e, 3), p.packetsOut);
                }
            }
        }
    }

    /** Many secrets, so that keys, signatures and shared secrets of all forms come up. */
    private static void wholeSessions() {
        for (int i = 0; i < 40; i++) {
            Rig r = Rig.ready();
            r.secret(0, Rig.seed("client" + i)).secret(1, Rig.seed("server" + i));
            Peer p = new Peer(r, i & 1);
            p.secret = Rig.seed("peer" + i);
            p.begins();
            if (p.plays == 0) {
                p.exchangesAsClient();
            } else {
                p.exchangesAsServer();
            }
            Check.due("exchange " + i, r.x.about(1 - p.plays, 4), 1);
        }
    }

    private static void publicKeyProof() {
        for (int i = 0; i < 10; i++) {
            byte[] seed = Rig.seed("user" + i);
            byte[] blob = Peer.blob(Crypto.edPublic(seed));
            Rig r = Rig.ready().secret(3, seed);
            Peer p = Peer.server(r);
            p.next();
            p.send(Msg.of(6).str("ssh-userauth"));
            p.next();
            p.send(Msg.of(51).str("publickey").u8(0));
            Msg head = Msg.of(50).str("al").str("ssh-connection").str("publickey");
            byte[] asked = head.bytes();
            Check.due("would it do", p.next(), new Msg().raw(asked).u8(0).str("ssh-ed25519").str(blob).bytes());
            p.send(Msg.of(60).str("ssh-ed25519").str(blob));
            byte[] signed = new Msg().raw(asked).u8(1).str("ssh-ed25519").str(blob).bytes();
            byte[] text = new Msg().str(p.session).raw(signed).bytes();
            Check.due("proof", p.next(), new Msg().raw(signed).str(Peer.blob(Crypto.edSign(seed, text))).bytes());

            Rig s = Rig.ready();
            s.tape(Crypto.edPublic(seed)).x.allow(0);
            Peer c = Peer.client(s);
            c.send(Msg.of(5).str("ssh-userauth"));
            c.next();
            text = new Msg().str(c.session).raw(signed).bytes();
            byte[] proof = Crypto.edSign(seed, text);
            byte[] bad = proof.clone();
            bad[i * 6] ^= 16;
            c.send(new Msg().raw(signed).str(Peer.blob(bad)));
            Check.due("wrong proof", c.next(), Msg.of(51).str("publickey,password").u8(0).bytes());
            c.send(new Msg().raw(signed).str(Peer.blob(proof)));
            Check.due("right proof", c.next(), new byte[] {52});
            Check.due("failures", s.x.about(1, 10), 1);
        }
    }
}
