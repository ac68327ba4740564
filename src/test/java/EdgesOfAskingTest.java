import java.util.Arrays;

/** WHO ASKS, promises 5, 6 and 21, at its edges. */
public final class EdgesOfAskingTest {
    private static final byte[] FAILS = Msg.of(51).str("publickey,password").u8(0).bytes();
    private static final byte[] KEY = Crypto.edPublic(Rig.IDENTITY);
    private static final byte[] BLOB = Peer.blob(KEY);

    public static void main(String[] args) {
        namesOfServices();
        serviceAgain();
        serviceBehindProof();
        askedBeforeTheService();
        servicesOf50();
        passwordsNearly();
        emptyPasswords();
        namesNearly();
        keysNearly();
        accountsWithoutKey();
        signaturesNearly();
        signedForAnotherSession();
        fiveFailuresAndSix();
        whatDoesNotCount();
        failuresOfEachConnection();
        proofIsPassedOver();
        clientWithoutName();
        eachMethodOnce();
        listsOfMethods();
        answersNearly();
        answersThatAreNotDue();
        noneLeft();
        keysChangedInBetween();
        asksInEveryConnection();
        nothingIsDueFromBefore();
        Check.close();
    }

    private static Msg ask(String user, String method) {
        return Msg.of(50).str(user).str("ssh-connection").str(method);
    }

    /** A server with ACCOUNTS al (pw, KEY), bo (no password, no key), cy (64 bytes of password), that gave the service. */
    private static Peer asking() {
        Rig r = Rig.ready().withKey();
        r.tape("bo").x.user(2, true);
        r.tape("cy" + "p".repeat(64)).x.user(2, true);
        Peer p = Peer.client(r);
        p.send(Msg.of(5).str("ssh-userauth"));
        Check.due("6", p.next(), Msg.of(6).str("ssh-userauth").bytes());
        return p;
    }

    private static void fails(String what, Peer p, Msg m, int failures) {
        p.send(m);
        Check.due(what, p.next(), FAILS);
        Check.due("failures behind " + what, p.rig.x.about(1, 10), failures);
    }

    private static Msg password(String user, String password) {
        return ask(user, "password").u8(0).str(password);
    }

    private static void namesOfServices() {
        String right = "ssh-userauth";
        for (String s : new String[] {"", "ssh-userauth ", "ssh-userautg", "ssh-useraut", "SSH-USERAUTH", "ssh-connection"}) {
            Check.due("5 with " + s, Peer.client(Rig.ready()).send(Msg.of(5).str(s)).state(), "2/7");
            Peer p = Peer.server(Rig.ready());
            Check.due("6 with " + s, p.send(Msg.of(6).str(s)).state(), "2/2");
        }
        Check.due("5", Peer.client(Rig.ready()).send(Msg.of(5).str(right)).state(), "1/0");
        Check.due("6", Peer.server(Rig.ready()).send(Msg.of(6).str(right)).state(), "1/0");
    }

    /** 5 before proof: 6 again, and what was asked for between does not matter. */
    private static void serviceAgain() {
        Peer p = asking();
        for (int i = 1; i <= 3; i++) {
            fails("a wrong password", p, password("al", "no"), i);
            p.send(Msg.of(5).str("ssh-userauth"));
            Check.due("6 again", p.next(), Msg.of(6).str("ssh-userauth").bytes());
        }
        Check.due("failures stay", p.rig.x.about(1, 10), 3);
        Check.due("another is no service", p.send(Msg.of(5).str("x")).state(), "2/7");
    }

    /** 5 when proven, with any name: DISCONNECT 2. */
    private static void serviceBehindProof() {
        Check.due("its name", Peer.provenClient(Rig.ready()).send(Msg.of(5).str("ssh-userauth")).state(), "2/2");
        Check.due("another", Peer.provenClient(Rig.ready()).send(Msg.of(5).str("x")).state(), "2/2");
        Check.due("6 at the server", asking().send(Msg.of(6).str("ssh-userauth")).state(), "2/2");
        Check.due("6 behind proof", Peer.provenClient(Rig.ready()).send(Msg.of(6).str("ssh-userauth")).state(), "2/2");
    }

    private static void askedBeforeTheService() {
        for (Msg m : new Msg[] {ask("al", "none"), password("al", "pw"), ask("al", "x"), Msg.of(50).str("al").str("x").str("x")}) {
            Peer p = Peer.client(Rig.ready());
            Check.due("50 before 6", p.send(m).state(), "2/2");
            Check.due("no failure", p.rig.x.about(1, 10), 0);
        }
    }

    private static void servicesOf50() {
        for (String s : new String[] {"", "ssh-connectio", "ssh-connection ", "ssh-userauth", "SSH-connection"}) {
            Peer p = asking();
            p.send(Msg.of(50).str("al").str(s).str("password").u8(0).str("pw"));
            Check.due("50 for " + s, p.state() + " " + p.rig.x.about(1, 8), "2/7 0");
            Check.due("none for " + s, asking().send(Msg.of(50).str("al").str(s).str("none")).state(), "2/7");
        }
    }

    private static void passwordsNearly() {
        Peer p = asking();
        String[] wrong = {"", "p", "pw ", "pwpw", "PW"};
        for (int i = 0; i < wrong.length; i++) {
            fails("password " + wrong[i], p, password("al", wrong[i]), i + 1);
        }
        Check.due("right", p.send(password("al", "pw")).next(), new byte[] {52});
        Peer q = asking();
        fails("63 of 64 bytes", q, password("cy", "p".repeat(63)), 1);
        fails("65 bytes", q, password("cy", "p".repeat(65)), 2);
        fails("the last is another", q, password("cy", "p".repeat(63) + "q"), 3);
        fails("another's", q, password("cy", "pw"), 4);
        fails("with byte 1 and one string more", q, ask("cy", "password").u8(1).str("p".repeat(64)).str("q"), 5);
        Check.due("64 bytes", q.send(password("cy", "p".repeat(64))).next(), new byte[] {52});
    }

    /** The ACCOUNT's password, and that is not empty. */
    private static void emptyPasswords() {
        Peer p = asking();
        fails("an empty one of an ACCOUNT without", p, password("bo", ""), 1);
        fails("an empty one of an ACCOUNT with", p, password("al", ""), 2);
        fails("an empty one of nobody", p, password("nobody", ""), 3);
        Check.due("not proven", p.rig.x.about(1, 8), 0);
    }

    /** A user without ACCOUNT always fails. */
    private static void namesNearly() {
        Peer p = asking();
        String[] wrong = {"", "a", "all", "Al", "alp"};
        for (int i = 0; i < wrong.length; i++) {
            fails("user " + wrong[i], p, password(wrong[i], "pw"), i + 1);
        }
        Check.due("al", p.send(password("al", "pw")).next(), new byte[] {52});
        Peer q = asking();
        fails("a key of nobody's", q, ask("all", "publickey").u8(0).str("ssh-ed25519").str(BLOB), 0);
    }

    private static Msg query(String user, String name, byte[] blob) {
        return ask(user, "publickey").u8(0).str(name).str(blob);
    }

    /** The algorithm ssh-ed25519 and a key of its shape that the ACCOUNT has: 60; else it fails, and does not count. */
    private static void keysNearly() {
        Peer p = asking();
        for (String s : new String[] {"", "ssh-ed2551", "ssh-ed25519x", "ssh-rsa"}) {
            fails("algorithm " + s, p, query("al", s, BLOB), 0);
            byte[] blob = new Msg().str(s).str(KEY).bytes();
            fails("a key of " + s, p, query("al", "ssh-ed25519", blob), 0);
        }
        for (int at = 0; at < BLOB.length; at++) {
            byte[] blob = BLOB.clone();
            blob[at] ^= 1;
            fails("byte " + at, p, query("al", "ssh-ed25519", blob), 0);
            fails("cut to " + at, p, query("al", "ssh-ed25519", Arrays.copyOf(BLOB, at)), 0);
        }
        fails("a byte more", p, query("al", "ssh-ed25519", Arrays.copyOf(BLOB, BLOB.length + 1)), 0);
        p.send(query("al", "ssh-ed25519", BLOB));
        Check.due("60 with both strings", p.next(), Msg.of(60).str("ssh-ed25519").str(BLOB).bytes());
        p.send(query("al", "ssh-ed25519", BLOB));
        Check.due("60 again", p.next(), Msg.of(60).str("ssh-ed25519").str(BLOB).bytes());
    }

    private static void accountsWithoutKey() {
        Peer p = asking();
        fails("no key was allowed", p, query("bo", "ssh-ed25519", BLOB), 0);
        fails("nor one of 0", p, query("bo", "ssh-ed25519", Peer.blob(new byte[32])), 0);
        p.rig.tape(KEY).x.allow(1);
        p.send(query("bo", "ssh-ed25519", BLOB));
        Check.due("now it is", p.next()[0], 60);
        p.rig.tape(new byte[32]).x.allow(0);
        fails("another key is in its place", p, query("al", "ssh-ed25519", BLOB), 0);
    }

    private static Msg proof(Peer p, int change, int size) {
        byte[] signed = ask("al", "publickey").u8(1).str("ssh-ed25519").str(BLOB).bytes();
        byte[] proof = Crypto.edSign(Rig.IDENTITY, new Msg().str(p.session).raw(signed).bytes());
        if (change >= 0) {
            proof[change] ^= 1;
        }
        return new Msg().raw(signed).str(Peer.blob(Arrays.copyOf(proof, size)));
    }

    private static void signaturesNearly() {
        Peer p = asking();
        fails("63 bytes", p, proof(p, -1, 63), 1);
        fails("65 bytes", p, proof(p, -1, 65), 2);
        fails("the first byte", p, proof(p, 0, 64), 3);
        fails("the last of R", p, proof(p, 31, 64), 4);
        fails("the first of S", p, proof(p, 32, 64), 5);
        Check.due("right, ahead of the sixth failure", p.send(proof(p, -1, 64)).next(), new byte[] {52});
        Peer q = asking();
        byte[] signed = ask("al", "publickey").u8(1).str("ssh-ed25519").str(BLOB).bytes();
        byte[] good = Crypto.edSign(Rig.IDENTITY, new Msg().str(q.session).raw(signed).bytes());
        fails("an empty one", q, new Msg().raw(signed).str(""), 1);
        fails("another name", q, new Msg().raw(signed).str(new Msg().str("ssh-ed25518").str(good).bytes()), 2);
        fails("a byte more", q, new Msg().raw(signed).str(new Msg().raw(Peer.blob(good)).u8(0).bytes()), 3);
        fails("a byte less", q, new Msg().raw(signed).str(Arrays.copyOf(Peer.blob(good), 82)), 4);
        Check.due("right", q.send(new Msg().raw(signed).str(Peer.blob(good))).next(), new byte[] {52});
    }

    /** RFC 4252 7: the signature is of the session's id, and of what is asked. */
    private static void signedForAnotherSession() {
        Peer p = asking();
        byte[] session = p.session;
        p.session = Rig.seed("another session");
        Msg other = proof(p, -1, 64);
        p.session = session;
        fails("of another session", p, other, 1);
        byte[] signed = ask("al", "publickey").u8(0).str("ssh-ed25519").str(BLOB).bytes();
        byte[] proof = Crypto.edSign(Rig.IDENTITY, new Msg().str(session).raw(signed).bytes());
        Msg m = ask("al", "publickey").u8(1).str("ssh-ed25519").str(BLOB).str(Peer.blob(proof));
        fails("of byte 0", p, m, 2);
        p.rig.tape(KEY).x.allow(1);
        byte[] ofAl = proof(p, -1, 64).bytes();
        byte[] signature = Arrays.copyOfRange(ofAl, ofAl.length - 83, ofAl.length);
        fails("of another user", p, ask("bo", "publickey").u8(1).str("ssh-ed25519").str(BLOB).str(signature), 3);
    }

    /** At the sixth failure that counts, behind its 51: DISCONNECT 14. */
    private static void fiveFailuresAndSix() {
        Msg[] kinds = {password("al", "x"), ask("al", "password").u8(1).str("pw").str("x"), ask("al", "other"), ask("nobody", "x")};
        for (Msg kind : kinds) {
            Peer p = asking();
            for (int i = 1; i <= 5; i++) {
                fails("failure " + i, p, kind, i);
                Check.due("open", p.state(), "1/0");
            }
            fails("the sixth", p, kind, 6);
            Check.due("MESSAGE 1", p.next(), Msg.of(1).u32(14).str("").str("").bytes());
            Check.due("BROKEN", p.state(), "2/14");
        }
        Peer p = asking();
        for (int i = 1; i <= 5; i++) {
            fails("failure " + i, p, kinds[i % 4], i);
        }
        Check.due("right at the sixth", p.send(password("al", "pw")).next(), new byte[] {52});
        Check.due("open", p.state() + "/" + p.rig.x.about(1, 10), "1/0/5");
    }

    private static void whatDoesNotCount() {
        Peer p = asking();
        for (int i = 0; i < 20; i++) {
            fails("none", p, ask("al", "none"), 0);
            fails("none of nobody", p, ask("nobody", "none"), 0);
            fails("byte 0 of publickey", p, query("bo", "ssh-ed25519", BLOB), 0);
        }
        fails("publickey with byte 1 counts", p, proof(p, 5, 64), 1);
    }

    private static void failuresOfEachConnection() {
        Rig r = Rig.ready();
        r.tape("alno").x.user(2, false);
        for (int i = 0; i < 8; i++) {
            r.x.start();
            r.settle();
            Check.due("connection " + i, r.state(0) + " " + r.x.about(0, 10) + " " + r.x.about(1, 10), "2/14 2 1");
        }
    }

    /** Right: 52; 50 later is passed over, whatever it asks. */
    private static void proofIsPassedOver() {
        Peer p = Peer.provenClient(Rig.ready().withKey());
        Msg[] all = {ask("al", "none"), password("al", "no"), password("al", "pw"), ask("x", "y"), query("al", "ssh-ed25519", BLOB),
            Msg.of(50).str("al").str("other").str("none"), proof(p, 3, 64)};
        for (int i = 0; i < 3 * all.length; i++) {
            p.send(all[i % all.length]);
            p.saysNothing("50 behind proof, " + i % all.length);
        }
        Check.due("open", p.state() + "/" + p.rig.x.about(1, 10) + "/" + p.rig.x.about(1, 8), "1/0/0/1");
    }

    /** A client that no user was told asks with an empty name. */
    private static void clientWithoutName() {
        Rig r = new Rig().secret(2, Rig.HOST);
        Peer p = Peer.server(r);
        Check.due("5", p.next()[0], 5);
        p.send(Msg.of(6).str("ssh-userauth"));
        Check.due("50", p.next(), ask("", "none").bytes());
        Check.due("none is left", p.send(Msg.of(51).str("publickey,password").u8(0)).state(), "2/14");
        Check.due("50s", r.x.about(0, 10), 1);
    }

    private static Peer asked() {
        Peer p = Peer.server(Rig.ready().secret(3, Rig.IDENTITY));
        p.next();
        p.send(Msg.of(6).str("ssh-userauth"));
        Check.due("none first", p.next(), ask("al", "none").bytes());
        Check.due("one 50", p.rig.x.about(0, 10), 1);
        return p;
    }

    private static Msg list(String methods) {
        return Msg.of(51).str(methods).u8(0);
    }

    private static void eachMethodOnce() {
        Peer p = asked();
        p.send(list("publickey,password"));
        Check.due("publickey", p.next(), query("al", "ssh-ed25519", BLOB).bytes());
        p.send(Msg.of(60).str("ssh-ed25519").str(BLOB));
        Check.due("its proof", p.next(), proof(p, -1, 64).bytes());
        p.send(list("publickey,password"));
        Check.due("password", p.next(), password("al", "pw").bytes());
        Check.due("all four", p.rig.x.about(0, 10), 4);
        p.send(list("publickey,password"));
        Check.due("none is left", p.state() + "/" + p.rig.x.about(0, 10), "2/14/4");
    }

    /** If the last 51 lists it. */
    private static void listsOfMethods() {
        String[] neither = {"", ",", "Password", "publickey2,password2", "publicke,asswor", "pass,word", "hostbased"};
        for (String s : neither) {
            Check.due("51 with " + s, asked().send(list(s)).state(), "2/14");
        }
        String[] both = {"publickey,password", "password,publickey", "x,publickey,y", ",publickey", "publickey,", "publickey,publickey"};
        for (String s : both) {
            Check.due("51 with " + s, asked().send(list(s)).next(), query("al", "ssh-ed25519", BLOB).bytes());
        }
        for (String s : new String[] {"password", "x,password", "password,x", "publickey2,password"}) {
            Peer p = asked();
            Check.due("51 with " + s, p.send(list(s)).next(), password("al", "pw").bytes());
            Check.due("publickey when it is listed", p.send(list("publickey")).next(), query("al", "ssh-ed25519", BLOB).bytes());
            Check.due("only the last counts", p.send(list("")).state(), "2/14");
        }
        Check.due("any byte", asked().send(Msg.of(51).str("password").u8(255)).next(), password("al", "pw").bytes());
    }

    /** 60: these two strings as they were sent, else DISCONNECT 2. */
    private static void answersNearly() {
        for (int at = 0; at < BLOB.length; at += 5) {
            Peer p = asked();
            p.send(list("publickey"));
            byte[] blob = BLOB.clone();
            blob[at] ^= 1;
            Check.due("byte " + at, p.send(Msg.of(60).str("ssh-ed25519").str(blob)).state(), "2/2");
        }
        for (String s : new String[] {"", "ssh-ed2551", "ssh-ed25519x"}) {
            Peer p = asked();
            p.send(list("publickey"));
            Check.due("60 with " + s, p.send(Msg.of(60).str(s).str(BLOB)).state(), "2/2");
        }
        Peer p = asked();
        p.send(list("publickey"));
        Check.due("a byte less", p.send(Msg.of(60).str("ssh-ed25519").str(Arrays.copyOf(BLOB, 50))).state(), "2/2");
    }

    /** 51 and 52 answer a 50, 60 the question of publickey; all are due once, and 6 is. */
    private static void answersThatAreNotDue() {
        Msg would = Msg.of(60).str("ssh-ed25519").str(BLOB);
        for (int number : new int[] {51, 52, 60}) {
            Msg m = number == 51 ? list("password") : number == 52 ? Msg.of(52) : would;
            Check.due(number + " before 6", Peer.server(Rig.ready().secret(3, Rig.IDENTITY)).send(m).state(), "2/2");
            Check.due(number + " behind 52", asked().send(Msg.of(52)).send(m).state(), "2/2");
        }
        Check.due("60 for none", asked().send(would).state(), "2/2");
        Check.due("60 for password", asked().send(list("password")).send(would).state(), "2/2");
        Check.due("60 for the proof", asked().send(list("publickey")).send(would).send(would).state(), "2/2");
        Check.due("6 twice", asked().send(Msg.of(6).str("ssh-userauth")).state(), "2/2");
        Check.due("6 behind 52", asked().send(Msg.of(52)).send(Msg.of(6).str("ssh-userauth")).state(), "2/2");
        Check.due("52 for none", asked().send(Msg.of(52)).rig.x.about(0, 8), 1);
        Check.due("52 for the question", asked().send(list("publickey")).send(Msg.of(52)).rig.x.about(0, 8), 1);
        Check.due("52 for the proof", asked().send(list("publickey")).send(would).send(Msg.of(52)).rig.x.about(0, 8), 1);
    }

    private static void noneLeft() {
        Peer p = asked();
        p.send(list(""));
        Check.due("MESSAGE 1", p.next(), Msg.of(1).u32(14).str("").str("").bytes());
        Check.due("BROKEN", p.state(), "2/14");
        Peer q = asked();
        q.rig.tape("a").x.user(1, false);
        Check.due("an empty password is none", q.send(list("password")).state(), "2/14");
        Peer s = Peer.server(Rig.ready());
        s.send(Msg.of(6).str("ssh-userauth"));
        Check.due("no IDENTITY", s.send(list("publickey")).state(), "2/14");
    }

    /** The key that the ACCOUNT has when the proof comes, the user and key that the client had when it asked. */
    private static void keysChangedInBetween() {
        Rig r = Rig.ready().withKey();
        r.tape("al").x.user(2, false);
        r.x.start();
        for (int i = 0; i < 20 && r.x.about(0, 10) < 2; i++) {
            r.x.move(0, 100000);
            r.x.move(1, 100000);
        }
        r.x.move(1, 100000);
        r.tape(new byte[32]).x.allow(0);
        r.tape("zz").x.user(2, false);
        r.secret(3, Rig.HOST);
        r.settle();
        Check.due("the proof fails and counts", r.state(1) + " " + r.x.about(1, 10) + r.x.about(0, 10), "3/14 13");
    }

    private static void asksInEveryConnection() {
        Rig r = Rig.ready().withKey();
        for (int i = 0; i < 3; i++) {
            r.x.start();
            Check.due("not proven yet", r.x.about(0, 8) + r.x.about(1, 8) + r.x.about(0, 10), 0);
            r.settle();
            Check.due("proven", r.x.about(0, 8) + r.x.about(1, 8), 2);
            Check.due("none, publickey, its proof", r.x.about(0, 10), 3);
        }
    }

    /** A 50 that was not answered, and a 60 that was due, are of no matter in the next connection. */
    private static void nothingIsDueFromBefore() {
        for (int number : new int[] {51, 52, 60}) {
            Peer p = asked().send(list("publickey"));
            Peer q = new Peer(p.rig, 1).begins().exchangesAsServer();
            Check.due("no 50 yet", q.rig.x.about(0, 10), 0);
            Msg m = number == 51 ? list("password") : number == 52 ? Msg.of(52) : Msg.of(60).str("ssh-ed25519").str(BLOB);
            Check.due(number + " behind start", q.send(m).state(), "2/2");
        }
        Peer p = Peer.client(asking().rig);
        Check.due("nor the 6 that was sent", p.send(password("al", "pw")).state(), "2/2");
    }
}
