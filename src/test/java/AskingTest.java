/** WHO ASKS, promises 5, 6 and 21: services, methods, failures, at both ENDS. */
public final class AskingTest {
    private static final byte[] FAILS = Msg.of(51).str("publickey,password").u8(0).bytes();
    private static final byte[] KEY = Crypto.edPublic(Rig.IDENTITY);

    public static void main(String[] args) {
        services();
        methodsAtTheServer();
        strangersKeys();
        malformed();
        sixFailures();
        behindProof();
        client();
        clientsMethods();
        clientsChanges();
        wholeRuns();
        Check.close();
    }

    private static Msg ask(String user, String method) {
        return Msg.of(50).str(user).str("ssh-connection").str(method);
    }

    /** A server that has given the service. */
    private static Peer asking() {
        Rig r = Rig.ready().withKey();
        r.tape("bo").x.user(2, true);
        Peer p = Peer.client(r);
        p.send(Msg.of(5).str("ssh-userauth"));
        p.next();
        return p;
    }

    private static void services() {
        Peer p = Peer.client(Rig.ready());
        p.send(Msg.of(5).str("ssh-userauth"));
        Check.due("6", p.next(), Msg.of(6).str("ssh-userauth").bytes());
        p.send(Msg.of(5).str("ssh-userauth"));
        Check.due("6 again", p.next(), Msg.of(6).str("ssh-userauth").bytes());
        p.send(Msg.of(5).str("ssh-connection"));
        Check.due("another service", p.rig.state(1), "2/7");
        Rig r = asking().rig;
        p = Peer.client(r);
        p.send(ask("al", "none"));
        Check.due("50 before the 6 of this connection", p.rig.state(1), "2/2");
        p = Peer.client(Rig.ready());
        p.send(Msg.of(5).str("ssh-userauth").u8(0));
        Check.due("5 with more", p.rig.state(1), "2/2");
        p = Peer.client(Rig.ready());
        p.send(ask("al", "none"));
        Check.due("50 before 6", p.rig.state(1), "2/2");
        p = asking();
        p.send(Msg.of(6).str("ssh-userauth"));
        Check.due("6 at the server", p.rig.state(1), "2/2");
        p = asking();
        p.send(Msg.of(50).str("al").str("other").str("password").u8(0).str("pw"));
        Check.due("50 for another service", p.rig.state(1), "2/7");
    }

    private static void methodsAtTheServer() {
        byte[] blob = Peer.blob(KEY);
        Peer p = asking();
        Msg[] free = {
            ask("al", "none"), ask("nobody", "none"),
            ask("nobody", "publickey").u8(0).str("ssh-ed25519").str(blob),
            ask("bo", "publickey").u8(0).str("ssh-ed25519").str(blob),
            ask("al", "publickey").u8(0).str("ssh-rsa").str(blob),
            ask("al", "publickey").u8(0).str("ssh-ed25519").str(Peer.blob(Crypto.edPublic(Rig.HOST))),
            ask("al", "publickey").u8(0).str("ssh-ed25519").str(""),
        };
        for (int i = 0; i < free.length; i++) {
            p.send(free[i]);
            Check.due("fails freely " + i, p.next(), FAILS);
            Check.due("not counted", p.rig.x.about(1, 10), 0);
        }
        p.send(ask("al", "publickey").u8(0).str("ssh-ed25519").str(blob));
        Check.due("it would do", p.next(), Msg.of(60).str("ssh-ed25519").str(blob).bytes());
        Check.due("not counted either", p.rig.x.about(1, 10), 0);
        Msg[] counted = {
            ask("al", "password").u8(0).str("pw2"), ask("bo", "password").u8(0).str(""),
            ask("al", "password").u8(1).str("pw").str("new"), ask("al", "keyboard-interactive").str("").str("whatever"),
            ask("al", "publickey").u8(1).str("ssh-ed25519").str(blob).str(Peer.blob(new byte[63])),
        };
        for (int i = 0; i < counted.length; i++) {
            p.send(counted[i]);
            Check.due("fails " + i, p.next(), FAILS);
            Check.due("counted", p.rig.x.about(1, 10), i + 1);
        }
        Check.due("not proven", p.rig.x.about(1, 8), 0);
        p.send(ask("al", "password").u8(0).str("pw"));
        Check.due("right", p.next(), new byte[] {52});
        Check.due("proven", p.rig.x.about(1, 8), 1);
        Check.due("failures stay told", p.rig.x.about(1, 10), 5);
    }

    /** A good signature is of no use without an ACCOUNT that has its key. */
    private static void strangersKeys() {
        Peer p = asking();
        byte[] own = Crypto.edPublic(Rig.HOST);
        for (String user : new String[] {"al", "bo", "nobody"}) {
            byte[] signed = ask(user, "publickey").u8(1).str("ssh-ed25519").str(Peer.blob(own)).bytes();
            byte[] proof = Crypto.edSign(Rig.HOST, new Msg().str(p.session).raw(signed).bytes());
            p.send(new Msg().raw(signed).str(Peer.blob(proof)));
            Check.due("a key of nobody's for " + user, p.next(), FAILS);
        }
        byte[] signed = ask("al", "publickey").u8(1).str("ssh-rsa").str(Peer.blob(KEY)).bytes();
        byte[] proof = Crypto.edSign(Rig.IDENTITY, new Msg().str(p.session).raw(signed).bytes());
        p.send(new Msg().raw(signed).str(Peer.blob(proof)));
        Check.due("another algorithm", p.next(), FAILS);
        signed = ask("bo", "publickey").u8(1).str("ssh-ed25519").str(Peer.blob(KEY)).bytes();
        proof = Crypto.edSign(Rig.IDENTITY, new Msg().str(p.session).raw(signed).bytes());
        p.send(new Msg().raw(signed).str(Peer.blob(proof)));
        Check.due("another's key", p.next(), FAILS);
        Check.due("all count", p.rig.x.about(1, 10), 5);
        signed = ask("al", "publickey").u8(1).str("ssh-ed25519").str(Peer.blob(KEY)).bytes();
        proof = Crypto.edSign(Rig.IDENTITY, new Msg().str(p.session).raw(signed).bytes());
        p.send(new Msg().raw(signed).str(new Msg().str("ssh-ed25519").str(proof).u8(0).bytes()));
        Check.due("a signature of another shape", p.next(), FAILS);
        Check.due("six", p.rig.state(1), "2/14");
    }

    private static void malformed() {
        byte[] blob = Peer.blob(KEY);
        Msg[] all = {
            ask("al", "none").u8(0), Msg.of(50).str("al").str("ssh-connection"), ask("al", "password").u8(0),
            ask("al", "password").u8(0).str("pw").str("x"), ask("al", "password").u8(1).str("pw"),
            ask("al", "password").u8(1).str("pw").str("x").u8(0),
            ask("al", "publickey").u8(0).str("ssh-ed25519"), ask("al", "publickey").u8(2).str("ssh-ed25519").str(blob),
            ask("al", "publickey").u8(0).str("ssh-ed25519").str(blob).str(""),
            ask("al", "publickey").u8(1).str("ssh-ed25519").str(blob),
            ask("al", "publickey").u8(1).str("ssh-ed25519").str(blob).str("").u8(0),
        };
        for (int i = 0; i < all.length; i++) {
            Peer p = asking();
            p.send(all[i]);
            Check.due("malformed " + i, p.rig.state(1), "2/2");
        }
    }

    private static void sixFailures() {
        Peer p = asking();
        for (int i = 0; i < 5; i++) {
            p.send(ask("al", "password").u8(0).str("wrong"));
            Check.due("51", p.next(), FAILS);
        }
        p.send(ask("al", "none"));
        Check.due("51 for none", p.next(), FAILS);
        Check.due("five do not matter", p.rig.state(1), "1/0");
        p.send(ask("al", "password").u8(0).str("wrong"));
        Check.due("51 ahead of the end", p.next(), FAILS);
        Check.due("MESSAGE 1", p.next(), Msg.of(1).u32(14).str("").str("").bytes());
        Check.due("six do", p.rig.state(1) + "/" + p.rig.x.about(1, 10), "2/14/6");
    }

    private static void behindProof() {
        Peer p = Peer.provenClient(Rig.ready());
        p.send(ask("al", "password").u8(0).str("wrong"));
        p.send(ask("al", "none"));
        p.send(Msg.of(50).str("al").str("other").str("x"));
        Check.due("50 is passed over", p.next() == null ? 1 : 0, 1);
        Check.due("failures", p.rig.x.about(1, 10), 0);
        p.send(Msg.of(5).str("ssh-userauth"));
        Check.due("5 is not due", p.rig.state(1), "2/2");
    }

    private static void client() {
        for (int i = 0; i < 6; i++) {
            Peer p = Peer.server(Rig.ready());
            Check.due("5", p.next(), Msg.of(5).str("ssh-userauth").bytes());
            Check.due("no 50 yet", p.rig.x.about(0, 10), 0);
            if (i == 0) {
                p.send(Msg.of(6).str("ssh-connection"));
            } else if (i == 1) {
                p.send(Msg.of(52));
            } else if (i == 2) {
                p.send(Msg.of(6).str("ssh-userauth"));
                p.send(Msg.of(6).str("ssh-userauth"));
            } else if (i == 3) {
                p.send(Msg.of(6).str("ssh-userauth"));
                p.send(Msg.of(60).str("ssh-ed25519").str(Peer.blob(KEY)));
            } else if (i == 4) {
                p.send(Msg.of(6).str("ssh-userauth"));
                p.send(Msg.of(52).u8(0));
            } else {
                p.send(Msg.of(6).str("ssh-userauth"));
                p.send(Msg.of(51).str("password"));
            }
            Check.due("not due or not so, " + i, p.rig.state(0), "2/2");
            Check.due("not proven", p.rig.x.about(0, 8), 0);
        }
        Peer p = Peer.provenServer(Rig.ready());
        Check.due("proven", p.rig.x.about(0, 8), 1);
        Check.due("one 50", p.rig.x.about(0, 10), 1);
        p.send(Msg.of(52));
        Check.due("52 twice", p.rig.state(0), "2/2");
    }

    /** A client with all methods that has asked for none. */
    private static Peer asked(boolean withKey) {
        Rig r = Rig.ready();
        if (withKey) {
            r.secret(3, Rig.IDENTITY);
        }
        Peer p = Peer.server(r);
        p.next();
        p.send(Msg.of(6).str("ssh-userauth"));
        p.next();
        return p;
    }

    private static void clientsMethods() {
        byte[] password = ask("al", "password").u8(0).str("pw").bytes();
        byte[] query = ask("al", "publickey").u8(0).str("ssh-ed25519").str(Peer.blob(KEY)).bytes();
        Peer p = asked(true);
        p.send(Msg.of(51).str("x,password,y").u8(1));
        Check.due("the one that is listed", p.next(), password);
        p.send(Msg.of(51).str("password,publickey").u8(0));
        Check.due("then the other", p.next(), query);
        p.send(Msg.of(51).str("password,publickey").u8(0));
        Check.due("none is left", p.rig.state(0), "2/14");
        Check.due("50s", p.rig.x.about(0, 10), 3);

        p = asked(true);
        p.send(Msg.of(51).str("publickey,password").u8(0));
        Check.due("publickey first", p.next(), query);
        p.send(Msg.of(60).str("ssh-ed25519").str(Peer.blob(KEY)));
        Check.due("proof", p.next()[0], 50);
        p.send(Msg.of(60).str("ssh-ed25519").str(Peer.blob(KEY)));
        Check.due("60 twice", p.rig.state(0), "2/2");

        p = asked(true);
        p.send(Msg.of(51).str("publickey,password").u8(0));
        p.next();
        p.send(Msg.of(60).str("ssh-ed25519").str(Peer.blob(Crypto.edPublic(Rig.HOST))));
        Check.due("60 with another key", p.rig.state(0), "2/2");

        p = asked(true);
        p.send(Msg.of(51).str("publickey,password").u8(0));
        p.next();
        p.send(Msg.of(60).str("ssh-rsa").str(Peer.blob(KEY)));
        Check.due("60 with another name", p.rig.state(0), "2/2");

        p = asked(true);
        p.send(Msg.of(51).str("publickey").u8(0));
        p.next();
        p.send(Msg.of(52));
        Check.due("52 for the question alone", p.rig.x.about(0, 8), 1);

        p = asked(false);
        p.send(Msg.of(51).str("publickey,password").u8(0));
        Check.due("no IDENTITY", p.next(), password);
        p.send(Msg.of(51).str("").u8(0));
        Check.due("nothing is listed", p.rig.state(0), "2/14");

        p = asked(false);
        p.rig.tape("al").x.user(2, false);
        p.send(Msg.of(51).str("publickey,password").u8(0));
        Check.due("an empty password", p.rig.state(0), "2/14");
        p = asked(false);
        p.send(Msg.of(51).str("passwor,passwords,,Password").u8(0));
        Check.due("names alike", p.rig.state(0), "2/14");
        p = asked(false);
        p.send(Msg.of(51).str("password").u8(0).u8(0));
        Check.due("51 with more", p.rig.state(0), "2/2");
    }

    /** What the calls change counts from the next 50 on, but for the proof of a key that was asked about. */
    private static void clientsChanges() {
        Peer p = asked(true);
        p.send(Msg.of(51).str("publickey").u8(0));
        p.next();
        p.rig.tape("boo").x.user(2, false);
        p.rig.secret(3, Rig.HOST);
        p.send(Msg.of(60).str("ssh-ed25519").str(Peer.blob(KEY)));
        byte[] signed = ask("al", "publickey").u8(1).str("ssh-ed25519").str(Peer.blob(KEY)).bytes();
        byte[] proof = Crypto.edSign(Rig.IDENTITY, new Msg().str(p.session).raw(signed).bytes());
        Check.due("as they were", p.next(), new Msg().raw(signed).str(Peer.blob(proof)).bytes());
        p.send(Msg.of(51).str("publickey,password").u8(0));
        Check.due("as they are", p.next(), ask("bo", "password").u8(0).str("o").bytes());
    }

    private static String whole(Rig r) {
        r.x.start();
        r.settle();
        return r.state(0) + " " + r.x.about(0, 8) + r.x.about(1, 8) + " " + r.x.about(0, 10) + " " + r.x.about(1, 10);
    }

    private static void wholeRuns() {
        Check.due("by key", whole(Rig.ready().withKey()), "1/0 11 3 0");
        Check.due("by password", whole(Rig.ready()), "1/0 11 2 0");
        Check.due("by password, the key does not do", whole(Rig.ready().secret(3, Rig.IDENTITY)), "1/0 11 3 0");
        Rig r = Rig.ready();
        r.tape("alno").x.user(2, false);
        Check.due("by nothing", whole(r), "2/14 00 2 1");
        Check.due("the server is told", r.state(1), "3/14");
        r = Rig.ready();
        r.tape("nobodypw").x.user(6, false);
        Check.due("nobody", whole(r), "2/14 00 2 1");
        r.tape("alpw").x.user(2, false);
        Check.due("once more", whole(r), "1/0 11 2 0");
    }
}
