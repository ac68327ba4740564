import java.util.Arrays;
import java.util.function.Supplier;

/**
 * MALFORMED: each MESSAGE, at the END where it is due, cut off behind each of its bytes, and with a byte more. What is
 * cut off is DISCONNECT 2, a byte more, too, but for 1, 2, 3, 4 and where the document says "whatever".
 */
public final class MalformedTest {
    private static final String BROKEN = "2/2";

    public static void main(String[] args) {
        atAnyTime();
        exchangeOfKeys();
        askingAtTheServer();
        askingAtTheClient();
        channelsAtBoth();
        channelsAtTheServer();
        channelsAtTheClient();
        Check.close();
    }

    /** Each beginning of m is MALFORMED, m is not, and m and a byte more is, if no more fits. */
    private static void cut(String what, Supplier<Peer> state, Msg m, boolean moreFits) {
        byte[] b = m.bytes();
        for (int n = 1; n < b.length; n++) {
            Check.due(what + " cut to " + n, state(state, Arrays.copyOf(b, n)), BROKEN);
        }
        Check.holds(what + " as it must be", !state(state, b).equals(BROKEN));
        Check.due(what + " with more", state(state, Arrays.copyOf(b, b.length + 1)).equals(BROKEN) ? 0 : 1, moreFits ? 1 : 0);
    }

    private static String state(Supplier<Peer> state, byte[] b) {
        return state.get().send(new Msg().raw(b)).state();
    }

    private static Peer begun(int plays) {
        return new Peer(Rig.ready(), plays).begins();
    }

    private static void atAnyTime() {
        for (int plays = 0; plays <= 1; plays++) {
            int p = plays;
            Supplier<Peer> open = () -> Peer.with(p, 2);
            cut("1", open, Msg.of(1).u32(7).str("ab").str("c"), true);
            cut("2", open, Msg.of(2).str("abc"), true);
            cut("3", open, Msg.of(3).u32(5), true);
            cut("4", open, Msg.of(4).u8(1).str("ab").str("c"), true);
            cut("2 in an exchange", () -> begun(p), Msg.of(2).str("ab"), true);
            cut("an unnamed number", open, Msg.of(77), true);
        }
    }

    private static void exchangeOfKeys() {
        byte[] init = Plain.init().bytes();
        for (int e = 0; e <= 1; e++) {
            for (int n = 1; n < init.length; n++) {
                Check.due("20 cut to " + n, Plain.sent(e, new Msg().raw(Arrays.copyOf(init, n))).state(e), BROKEN);
            }
            Check.due("20", Plain.sent(e, Plain.init()).state(e), "1/0");
            Check.due("20 with more", Plain.sent(e, Plain.init().u8(0)).state(e), BROKEN);
        }
        Check.due("a language", Plain.sent(1, new Msg().raw(Arrays.copyOf(init, init.length - 13)).str("en").str("de,en").u8(0)
                .u32(7)).state(1), "1/0");
        cut("30", () -> begun(0), Msg.of(30).str(Crypto.x25519Public(Rig.HOST)), false);
        Supplier<Peer> replied = () -> begun(0).send(Msg.of(30).str(Crypto.x25519Public(Rig.HOST)));
        cut("21 at the server", replied, Msg.of(21), false);
        byte[] reply = reply(begun(1));
        for (int n = 1; n < reply.length; n++) {
            Check.due("31 cut to " + n, cutReply(n), BROKEN);
        }
        Check.due("31", cutReply(reply.length), "1/0");
        Check.due("31 with more", cutReply(reply.length + 1), BROKEN);
        cut("21 at the client", () -> {
            Peer p = begun(1);
            return p.send(new Msg().raw(reply(p)));
        }, Msg.of(21), false);
    }

    /** A 31 that is right. */
    private static byte[] reply(Peer p) {
        p.answers30();
        return Msg.of(31).str(Peer.blob(Crypto.edPublic(Rig.HOST))).str(Crypto.x25519Public(p.secret))
                .str(Peer.blob(Crypto.edSign(Rig.HOST, p.hash))).bytes();
    }

    private static String cutReply(int n) {
        Peer p = begun(1);
        return p.send(new Msg().raw(Arrays.copyOf(reply(p), n))).state();
    }

    private static Msg ask(String method) {
        return Msg.of(50).str("al").str("ssh-connection").str(method);
    }

    private static void askingAtTheServer() {
        cut("5", () -> Peer.client(Rig.ready()), Msg.of(5).str("ssh-userauth"), false);
        Supplier<Peer> given = () -> Peer.client(Rig.ready()).send(Msg.of(5).str("ssh-userauth"));
        byte[] key = Peer.blob(Crypto.edPublic(Rig.IDENTITY));
        cut("50 none", given, ask("none"), false);
        cut("50 publickey 0", given, ask("publickey").u8(0).str("ssh-ed25519").str(key), false);
        cut("50 publickey 1", given, ask("publickey").u8(1).str("ssh-ed25519").str(key).str("proof"), false);
        cut("50 password 0", given, ask("password").u8(0).str("pw"), false);
        cut("50 password 1", given, ask("password").u8(1).str("pw").str("wp"), false);
        cut("50 of another method", given, ask("other"), true);
        Check.due("publickey 2", state(given, ask("publickey").u8(2).str("ssh-ed25519").str(key).bytes()), BROKEN);
        Check.due("publickey 255", state(given, ask("publickey").u8(255).str("ssh-ed25519").str(key).str("").bytes()), BROKEN);
    }

    private static Peer asking(Msg... all) {
        Peer p = Peer.server(Rig.ready().secret(3, Rig.IDENTITY));
        for (Msg m : all) {
            p.send(m);
        }
        return p;
    }

    private static void askingAtTheClient() {
        Msg service = Msg.of(6).str("ssh-userauth");
        Msg list = Msg.of(51).str("publickey").u8(0);
        cut("6", MalformedTest::asking, service, false);
        cut("51", () -> asking(service), list, false);
        cut("52", () -> asking(service), Msg.of(52), false);
        Msg would = Msg.of(60).str("ssh-ed25519").str(Peer.blob(Crypto.edPublic(Rig.IDENTITY)));
        cut("60", () -> asking(service, list), would, false);
    }

    /** A server, or a client, with a session there. */
    private static Peer there(int plays) {
        if (plays == 0) {
            return Peer.provenClient(Rig.ready()).send(Msg.of(90).str("session").u32(5).u32(100).u32(50));
        }
        Peer p = Peer.provenServer(Rig.ready());
        p.rig.x.open(0);
        return p.send(Msg.of(91).u32(0).u32(5).u32(100).u32(50));
    }

    private static void channelsAtBoth() {
        for (int plays = 0; plays <= 1; plays++) {
            int p = plays;
            Supplier<Peer> there = () -> there(p);
            cut("80", there, Msg.of(80).str("ab").u8(1), true);
            cut("93", there, Msg.of(93).u32(0).u32(7), false);
            cut("94", there, Msg.of(94).u32(0).str("ab"), false);
            cut("95", there, Msg.of(95).u32(0).u32(1).str("ab"), false);
            cut("96", there, Msg.of(96).u32(0), false);
            cut("97", there, Msg.of(97).u32(0), false);
            cut("98 of another kind", there, Msg.of(98).u32(0).str("other").u8(1), true);
        }
    }

    private static void channelsAtTheServer() {
        Supplier<Peer> proven = () -> Peer.provenClient(Rig.ready());
        cut("90 session", proven, Msg.of(90).str("session").u32(5).u32(100).u32(50), false);
        Msg tcp = Msg.of(90).str("direct-tcpip").u32(5).u32(100).u32(50).str("h").u32(7).str("o").u32(0);
        cut("90 direct-tcpip", proven, tcp, false);
        cut("90 of another type", proven, Msg.of(90).str("x11").u32(5).u32(100).u32(50), true);
        cut("98 exec", () -> there(0), Msg.of(98).u32(0).str("exec").u8(1).str("cat"), false);
        cut("98 exit-status", () -> there(0), Msg.of(98).u32(0).str("exit-status").u8(1), true);
    }

    private static Peer asked() {
        Peer p = Peer.provenServer(Rig.ready());
        p.rig.x.open(0);
        return p;
    }

    private static Peer requested() {
        Peer p = there(1);
        p.rig.exec(0, "cat");
        return p;
    }

    private static void channelsAtTheClient() {
        cut("90", MalformedTest::asked, Msg.of(90).str("session").u32(5).u32(100).u32(50), true);
        cut("91", MalformedTest::asked, Msg.of(91).u32(0).u32(5).u32(100).u32(50), false);
        cut("92", MalformedTest::asked, Msg.of(92).u32(0).u32(1).str("a").str("b"), false);
        cut("98 exit-status", () -> there(1), Msg.of(98).u32(0).str("exit-status").u8(0).u32(7), false);
        cut("98 exec", () -> there(1), Msg.of(98).u32(0).str("exec").u8(1), true);
        cut("99", MalformedTest::requested, Msg.of(99).u32(0), false);
        cut("100", MalformedTest::requested, Msg.of(100).u32(0), false);
    }
}
