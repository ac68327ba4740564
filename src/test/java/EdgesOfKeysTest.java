import java.math.BigInteger;
import java.util.Arrays;

/** KEYS EXCHANGED, promises 4, 7, 9, 19 and 21, at their edges. */
public final class EdgesOfKeysTest {
    private static final String[] CIPHERS = {"aes128-ctr", "aes256-ctr"};
    private static final String[] MACS = {"hmac-sha2-256", "hmac-sha2-256-etm@openssh.com"};
    private static final BigInteger P = BigInteger.ONE.shiftLeft(255).subtract(BigInteger.valueOf(19));

    public static void main(String[] args) {
        listsByDigits();
        settingsCountFromTheNextKexinit();
        itsOwnAtOnceIfNoneWasSent();
        theClientsFirstThatTheServerHas();
        namesInLists();
        guessOfTheServer();
        guessedRight();
        onlyTheNextPacketIsPassedOver();
        clientLetsWait();
        clientLetsTooMuchWait();
        whatWaitsCountsAsSent();
        lastMessageDoesNotWait();
        pointsOfOtherSizes();
        sharedSecretsOf0();
        repliesOfOtherShapes();
        signaturesBeyondTheOrder();
        anotherHostKey();
        sharedSecretsOfAllShapes();
        limitReachedJust();
        limitOfTheClient();
        limitCountsFrom21();
        limitSetLater();
        limitHasNoSayInAnExchange();
        kexinitIsDueAgainBehind21();
        rekeyIsRefused();
        firstIdStays();
        Check.close();
    }

    private static String names(int digits, String[] of) {
        return digits < 10 ? of[digits - 1] : of[digits / 10 - 1] + "," + of[digits % 10 - 1];
    }

    /** KEXINIT as CIPHERS and MACS have it: 1, 2, 12 and 21. */
    private static void listsByDigits() {
        int[] all = {1, 2, 12, 21};
        for (int ciphers : all) {
            for (int macs : all) {
                Rig r = Rig.ready();
                r.x.set(0, 0, ciphers);
                r.x.set(0, 1, macs);
                r.x.set(1, 0, macs);
                r.x.set(1, 1, ciphers);
                r.x.start();
                Check.due("the client's", init(r, 1), wanted(ciphers, macs));
                Check.due("the server's", init(r, 0), wanted(macs, ciphers));
            }
        }
    }

    private static byte[] init(Rig r, int e) {
        byte[] wire = r.wire(e);
        return Arrays.copyOfRange(wire, 23, wire.length - wire[22]);
    }

    private static byte[] wanted(int ciphers, int macs) {
        String c = names(ciphers, CIPHERS);
        String m = names(macs, MACS);
        return Msg.of(20).raw(Crypto.chance(new byte[32], 16)).str("curve25519-sha256,curve25519-sha256@libssh.org")
                .str("ssh-ed25519").str(c).str(c).str(m).str(m).str("none").str("none").str("").str("").u8(0).u32(0).bytes();
    }

    private static void settingsCountFromTheNextKexinit() {
        Rig r = Rig.ready();
        r.x.start();
        r.x.set(0, 0, 2);
        r.x.set(0, 1, 1);
        r.settle();
        Check.due("the KEXINIT was on its way", r.x.about(0, 6) + "/" + r.x.about(0, 7), "1/2");
        r.x.rekey(1);
        r.x.set(1, 0, 1);
        r.settle();
        Check.due("the client's next", r.x.about(0, 6) + "/" + r.x.about(0, 7), "2/1");
        r.x.set(0, 0, 12);
        r.x.rekey(0);
        r.settle();
        Check.due("the server's next", r.x.about(1, 6) + "/" + r.x.about(1, 7), "1/1");
    }

    /** One that gets a KEXINIT sends its own at once, if it has sent none since the last exchange. */
    private static void itsOwnAtOnceIfNoneWasSent() {
        for (int e = 0; e <= 1; e++) {
            Rig r = Rig.proven();
            int sent = r.x.about(e, 2);
            r.x.rekey(1 - e);
            r.x.move(e, 100000);
            Check.due("at once", r.x.about(e, 2), e == 0 ? sent + 2 : sent + 1);
            r.settle();
            sent = r.x.about(e, 2);
            r.x.rekey(e);
            r.x.rekey(1 - e);
            r.x.move(e, 100000);
            Check.due("it was sent already", r.x.about(e, 2), e == 0 ? sent + 2 : sent + 1);
            r.settle();
            Check.due("three exchanges", r.x.about(0, 4) + r.x.about(1, 4), 6);
        }
    }

    private static String chosen(int c0, int m0, int c1, int m1) {
        Rig r = Rig.ready();
        r.x.set(0, 0, c0);
        r.x.set(0, 1, m0);
        r.x.set(1, 0, c1);
        r.x.set(1, 1, m1);
        r.x.start();
        r.settle();
        return r.state(0) + " " + r.x.about(0, 6) + r.x.about(1, 6) + r.x.about(0, 7) + r.x.about(1, 7);
    }

    private static void theClientsFirstThatTheServerHas() {
        int[] all = {1, 2, 12, 21};
        for (int client : all) {
            for (int server : all) {
                int first = client < 10 ? client : client / 10;
                int d = server >= 10 ? first : client >= 10 || client == server ? server : 0;
                Check.due("CIPHERS " + client + " and " + server, chosen(client, 12, server, 21),
                        d == 0 ? "2/3 0000" : "1/0 " + d + d + "11");
                Check.due("MACS " + client + " and " + server, chosen(21, client, 12, server),
                        d == 0 ? "2/3 0000" : "1/0 22" + d + d);
            }
        }
    }

    /** The server behind a KEXINIT with this list of ciphers. */
    private static String ciphers(String list) {
        String[] six = Plain.LISTS.clone();
        six[0] = list;
        return Plain.sent(1, Plain.init("curve25519-sha256", "ssh-ed25519", six, 0)).state(1);
    }

    private static void namesInLists() {
        for (String good : new String[] {"aes128-ctr", ",aes128-ctr", "aes128-ctr,", "x,,aes256-ctr,y", "aes256-ctr,aes256-ctr"}) {
            Check.due("\"" + good + "\"", ciphers(good), "1/0");
        }
        for (String bad : new String[] {"", ",", ",,", "aes128-ctr ", " aes128-ctr", "AES128-CTR", "aes128-ctr;x", "aes"}) {
            Check.due("\"" + bad + "\"", ciphers(bad), "2/3");
        }
    }

    /** A client whose server says that a packet follows, with these first names. */
    private static String guess(String keys, String host, int follows, Msg next) {
        return Plain.sent(0, Plain.init(keys, host, Plain.LISTS, follows), next).state(0);
    }

    private static void guessOfTheServer() {
        String mine = "curve25519-sha256";
        String other = "curve25519-sha256@libssh.org";
        Check.due("right", guess(mine, "ssh-ed25519", 1, Msg.of(77)), "2/2");
        Check.due("wrong keys", guess(other, "ssh-ed25519", 1, Msg.of(77)), "1/0");
        Check.due("wrong host key", guess(mine, "x,ssh-ed25519", 1, Msg.of(77)), "1/0");
        Check.due("both wrong", guess(other, "x,ssh-ed25519", 1, Msg.of(77)), "1/0");
        Check.due("wrong, but nothing follows", guess(other, "x,ssh-ed25519", 0, Msg.of(77)), "2/2");
        Check.due("any byte but 0", guess(other, "ssh-ed25519", 128, Msg.of(77)), "1/0");
        Check.due("an empty name is first", guess("," + mine, "ssh-ed25519", 1, Msg.of(77)), "1/0");
        Check.due("MESSAGE 1 is passed over, too", guess(other, "ssh-ed25519", 1, Msg.of(1).u32(4).str("").str("")), "1/0");
        Check.due("but not its length", guess(other, "ssh-ed25519", 1, new Msg().raw(new byte[35100])), "2/2");
    }

    private static void guessedRight() {
        Rig r = Plain.sent(1, Plain.init("curve25519-sha256,x", "ssh-ed25519,x", Plain.LISTS, 1),
                Msg.of(30).str(Crypto.x25519Public(Rig.HOST)));
        Check.due("30 is taken", r.state(1) + "/" + r.x.about(1, 6), "1/0/2");
    }

    private static void onlyTheNextPacketIsPassedOver() {
        Msg wrong = Plain.init("curve25519-sha256@libssh.org", "ssh-ed25519", Plain.LISTS, 1);
        Msg point = Msg.of(30).str(Crypto.x25519Public(Rig.HOST));
        Rig r = Plain.sent(1, wrong, Msg.of(30).str("guessed"), point);
        Check.due("the second 30 counts", r.state(1) + "/" + r.x.about(1, 6) + "/" + r.x.about(1, 3), "1/0/2/3");
        Check.due("one that is cut short is passed over", Plain.answered(wrong, Msg.of(30), point), "1/0/3");
        Check.due("a third is not due", Plain.answered(wrong, Msg.of(30), point, point), "2/2/4");
    }

    /** A client with channels to write on, which has sent KEXINIT. */
    private static Peer holding(int channels) {
        Peer p = Peer.provenServer(Rig.ready());
        for (int i = 0; i < channels; i++) {
            p.rig.x.open(0);
            p.next();
            p.send(Msg.of(91).u32(i).u32(i).u32(1 << 30).u32(32768));
        }
        p.rig.x.rekey(0);
        p.theirInit = p.next();
        return p;
    }

    private static void clientLetsWait() {
        Peer p = holding(1);
        int sent = p.rig.x.about(0, 2);
        p.rig.write(0, false, "waits");
        p.rig.exec(0, "x");
        p.rig.x.open(0);
        p.rig.x.finish(0, 0);
        Check.due("nothing is sent", p.rig.x.about(0, 2), sent);
        p.send(Msg.of(77));
        Check.due("but 3 is", p.next(), Msg.of(3).u32(p.packetsOut - 1).bytes());
        p.ownInit = Plain.rekeys().bytes();
        p.send(new Msg().raw(p.ownInit));
        p.exchangesAsServer();
        Check.due("94", p.next(), Msg.of(94).u32(0).str("waits").bytes());
        Check.due("98", p.next(), Msg.of(98).u32(0).str("exec").u8(1).str("x").bytes());
        Check.due("90", p.next(), Msg.of(90).str("session").u32(1).u32(4096).u32(1024).bytes());
        Check.due("96", p.next(), Msg.of(96).u32(0).bytes());
        p.saysNothing("and no more");
    }

    /** 65,536 may wait, each MESSAGE with 4 bytes more; with one byte above it is a LOSS. */
    private static void clientLetsTooMuchWait() {
        for (int over = 0; over <= 1; over++) {
            Peer p = holding(1);
            int left = 65536;
            for (int i = 0; i < 3; i++) {
                p.rig.tape(new byte[16384]).x.write(0, false);
                left -= 16384 + 9 + 4;
            }
            int sent = p.rig.x.about(0, 2);
            p.rig.tape(new byte[left - 13 + over]).x.write(0, false);
            Check.due("over " + over, p.rig.state(0), over == 0 ? "1/0" : "2/10");
            Check.due("nothing is sent", p.rig.x.about(0, 2), sent);
            Check.due("it still waits on the channel", p.rig.x.channel(0, 5), over == 0 ? 0 : left - 12);
            if (over == 0) {
                p.rig.x.finish(0, 0);
                Check.due("not even 96 may wait", p.rig.state(0), "2/10");
            }
        }
    }

    private static void whatWaitsCountsAsSent() {
        Peer p = holding(2);
        p.rig.write(0, false, "12345");
        Check.due("the window is used", p.rig.x.channel(0, 6), (1 << 30) - 5);
        Check.due("nothing waits on the channel", p.rig.x.channel(0, 5), 0);
        p.rig.x.finish(1, 1);
        p.send(Msg.of(94).u32(1).str(new byte[1000]));
        p.rig.x.read(1, 0, 7);
        Check.due("97 is sent", p.rig.x.channel(1, 7), 3096);
        p.send(Msg.of(97).u32(1));
        Check.due("gone", p.rig.x.channel(1, 0), 3);
        p.rig.exec(0, "x");
        p.send(Msg.of(99).u32(0));
        Check.due("98 waits for its answer", p.rig.x.channel(0, 9), 1);
        Peer q = Peer.client(Rig.ready());
        q.rig.x.rekey(1);
        q.send(Msg.of(5).str("ssh-userauth"));
        q.send(Msg.of(50).str("al").str("ssh-connection").str("password").u8(0).str("pw"));
        Check.due("6 and 52", q.state() + " " + q.rig.x.about(1, 8), "1/0 1");
        Peer c = Peer.server(Rig.ready());
        c.rig.x.rekey(0);
        c.send(Msg.of(6).str("ssh-userauth"));
        Check.due("a 50 that waits is made", c.rig.x.about(0, 10), 1);
    }

    /** MESSAGE 1 is one of those that do not wait, and what waits is not sent any more. */
    private static void lastMessageDoesNotWait() {
        Peer p = holding(1);
        p.rig.write(0, false, "waits");
        p.rig.x.quit(0);
        Check.due("1", p.next(), Msg.of(1).u32(11).str("").str("").bytes());
        p.saysNothing("and no more");
        Peer q = holding(1);
        q.rig.write(0, false, "waits");
        q.send(Msg.of(81));
        Check.due("DISCONNECT 2", q.next(), Msg.of(1).u32(2).str("").str("").bytes());
        q.saysNothing("and no more");
    }

    /** 30 with a string of other than 32 bytes, 31 with Q_S of other than 32: DISCONNECT 3. */
    private static void pointsOfOtherSizes() {
        for (int n : new int[] {0, 1, 31, 32, 33, 64}) {
            byte[] point = Arrays.copyOf(Crypto.x25519Public(Rig.HOST), n);
            Check.due("30 of " + n, Plain.sent(1, Plain.init(), Msg.of(30).str(point)).state(1), n == 32 ? "1/0" : "2/3");
            Check.due("31 of " + n, reply(Peer.blob(Crypto.edPublic(Rig.HOST)), n == 32 ? null : point, 64), n == 32 ? "1/0" : "2/3");
        }
    }

    /** The points of a low order, and what is the same modulo 2^255 - 19: a shared secret of 0, DISCONNECT 3. */
    private static void sharedSecretsOf0() {
        BigInteger[] low = {
            BigInteger.ZERO, BigInteger.ONE, P.subtract(BigInteger.ONE), P, P.add(BigInteger.ONE),
            new BigInteger("325606250916557431795983626356110631294008115727848805560023387167927233504"),
            new BigInteger("39382357235489614581723060781553021112529911719440698176882885853963445705823"),
        };
        for (BigInteger v : low) {
            for (int high = 0; high <= 128; high += 128) {
                byte[] point = Crypto.little(v);
                point[31] |= (byte) high;
                Check.due("30 with " + v, Plain.sent(1, Plain.init(), Msg.of(30).str(point)).state(1), "2/3");
                Check.due("31 with " + v, reply(Peer.blob(Crypto.edPublic(Rig.HOST)), point, 64), "2/3");
            }
        }
        for (BigInteger v : new BigInteger[] {BigInteger.TWO, P.subtract(BigInteger.TWO), P.add(BigInteger.TWO)}) {
            Check.due("30 with " + v, Plain.sent(1, Plain.init(), Msg.of(30).str(Crypto.little(v))).state(1), "1/0");
        }
    }

    /** The client behind a 31 with this K_S, this Q_S (null: the right one) and a signature cut or filled up to n bytes. */
    private static String reply(byte[] hostKey, byte[] point, int n) {
        Peer p = new Peer(Rig.ready(), 1).begins();
        p.answers30();
        byte[] signed = Arrays.copyOf(Crypto.edSign(Rig.HOST, p.hash), n);
        byte[] own = point == null ? Crypto.x25519Public(p.secret) : point;
        return p.send(Msg.of(31).str(hostKey).str(own).str(Peer.blob(signed))).state();
    }

    private static void repliesOfOtherShapes() {
        byte[] key = Crypto.edPublic(Rig.HOST);
        for (int n : new int[] {0, 31, 32, 33}) {
            Check.due("K_S of " + n, reply(Peer.blob(Arrays.copyOf(key, n)), null, 64), n == 32 ? "1/0" : "2/3");
        }
        for (int n : new int[] {0, 63, 64, 65}) {
            Check.due("signature of " + n, reply(Peer.blob(key), null, n), n == 64 ? "1/0" : "2/3");
        }
        Check.due("no K_S", reply(new byte[0], null, 64), "2/3");
        Check.due("a name that is longer", reply(new Msg().str("ssh-ed25519x").str(key).bytes(), null, 64), "2/3");
        Check.due("K_S with more", reply(new Msg().raw(Peer.blob(key)).u8(0).bytes(), null, 64), "2/3");
    }

    /** RFC 8032: S is below the order. */
    private static void signaturesBeyondTheOrder() {
        for (int times = 0; times <= 1; times++) {
            Peer p = new Peer(Rig.ready(), 1).begins();
            p.answers30();
            byte[] signed = Crypto.edSign(Rig.HOST, p.hash);
            byte[] s = Arrays.copyOfRange(signed, 32, 64);
            for (int i = 0; i < 16; i++) {
                byte b = s[i];
                s[i] = s[31 - i];
                s[31 - i] = b;
            }
            byte[] more = Crypto.little(new BigInteger(1, s).add(Crypto.ORDER.multiply(BigInteger.valueOf(times))));
            System.arraycopy(more, 0, signed, 32, 32);
            p.send(Msg.of(31).str(Peer.blob(Crypto.edPublic(Rig.HOST))).str(Crypto.x25519Public(p.secret)).str(Peer.blob(signed)));
            Check.due("S and " + times + " times the order", p.state(), times == 0 ? "1/0" : "2/3");
        }
    }

    /** It knows a host key, and it is another, if only by a bit: DISCONNECT 9, behind the look at the signature. */
    private static void anotherHostKey() {
        for (int at : new int[] {-1, 0, 31}) {
            byte[] known = Crypto.edPublic(Rig.HOST);
            if (at >= 0) {
                known[at] ^= 1;
            }
            Rig r = Rig.ready().secret(4, known);
            r.x.start();
            r.settle();
            Check.due("byte " + at, r.state(0), at < 0 ? "1/0" : "2/9");
            Check.due("the server is told", r.state(1), at < 0 ? "1/0" : "3/9");
            Check.due("no exchange is complete", r.x.about(0, 4), at < 0 ? 1 : 0);
            Check.holds("H is worked out", r.x.about(0, 11) != 0);
        }
        Rig r = Rig.ready().secret(4, Crypto.edPublic(Rig.IDENTITY));
        r.x.start();
        r.x.move(0, 100000);
        r.x.move(1, 100000);
        r.x.flip(0, r.x.about(0, 5) - 16 - 12, 1);
        r.x.move(0, 100000);
        Check.due("a wrong signature comes first", r.state(0), "2/3");
    }

    /** mpint K: with its highest bit set, and with bytes of 0 at its beginning. */
    private static void sharedSecretsOfAllShapes() {
        byte[] chance = Crypto.chance(new byte[32], 52);
        byte[] theirs = Crypto.x25519Public(Arrays.copyOfRange(chance, 20, 52));
        int[] found = new int[3];
        for (int i = 0; i < 200000 && (found[0] < 2 || found[1] < 2 || found[2] < 2); i++) {
            byte[] secret = Rig.seed("peer" + i);
            byte[] k = Crypto.x25519(secret, theirs);
            int shape = k[0] < 0 ? 0 : k[0] > 0 ? -1 : k[1] < 0 ? 1 : 2;
            if (shape >= 0 && found[shape] < 2) {
                found[shape]++;
                Peer p = new Peer(Rig.ready(), 0);
                p.secret = secret;
                p.begins().exchangesAsClient();
                Check.due("shape " + shape, p.shared, k);
                Check.due("as the Java library has it", p.send(Msg.of(77)).next(), Msg.of(3).u32(3).bytes());
            }
        }
        Check.due("all shapes", found[0] + found[1] + found[2], 6);
    }

    /** 6 and each 51 are 68 bytes. With a LIMIT that is just reached KEXINIT follows, with one above it does not. */
    private static void limitReachedJust() {
        for (int over = 0; over <= 1; over++) {
            Rig r = Rig.ready();
            r.x.set(1, 4, 4 * 68 + over);
            Peer p = Peer.client(r);
            p.send(Msg.of(5).str("ssh-userauth"));
            Check.due("6", p.next()[0], 6);
            for (int i = 0; i < 3; i++) {
                p.saysNothing("LIMIT is not reached");
                p.send(Msg.of(50).str("al").str("ssh-connection").str("none"));
                Check.due("51", p.next()[0], 51);
            }
            byte[] next = p.next();
            Check.due("4 * 68 of LIMIT and " + over, next == null ? 0 : next[0], over == 0 ? 20 : 0);
        }
    }

    /** 5 is 68 bytes, 50 of none 84: the client's LIMIT is looked at, too, and its own counts. */
    private static void limitOfTheClient() {
        for (int over = 0; over <= 1; over++) {
            Rig r = Rig.ready();
            r.x.set(0, 4, 68 + 84 + 52 + 52 + over);
            Peer p = Peer.provenServer(r);
            p.send(Msg.of(80).str("x").u8(1));
            Check.due("82", p.next()[0], 82);
            p.saysNothing("LIMIT is not reached");
            p.send(Msg.of(80).str("x").u8(1));
            Check.due("82", p.next()[0], 82);
            byte[] next = p.next();
            Check.due("the client's LIMIT and " + over, next == null ? 0 : next[0], over == 0 ? 20 : 0);
        }
    }

    /** What was sent before 21 does not count, nor does 21. */
    private static void limitCountsFrom21() {
        Rig r = Rig.ready();
        r.x.set(1, 4, 5 * 52);
        Peer p = Peer.client(r);
        for (int round = 0; round < 2; round++) {
            for (int i = 0; i < 4; i++) {
                p.send(Msg.of(77));
                Check.due("3, of 52 bytes", p.next()[0], 3);
                p.saysNothing("LIMIT is not reached");
            }
            p.send(Msg.of(77));
            Check.due("3", p.next()[0], 3);
            p.theirInit = p.next();
            Check.due("KEXINIT", p.theirInit[0], 20);
            p.ownInit = Plain.rekeys().bytes();
            p.send(new Msg().raw(p.ownInit));
            p.exchangesAsClient();
        }
        Check.due("three exchanges", r.x.about(1, 4), 3);
    }

    /** LIMIT as it is set then: looked at behind the next packet that is sent, and not by set. */
    private static void limitSetLater() {
        Rig r = Rig.ready();
        Peer p = Peer.client(r);
        for (int i = 0; i < 6; i++) {
            p.send(Msg.of(77));
            p.next();
        }
        r.x.set(1, 4, 256);
        p.send(Msg.of(2).str(""));
        p.saysNothing("no packet is sent");
        p.send(Msg.of(77));
        Check.due("3", p.next()[0], 3);
        Check.due("KEXINIT", p.next()[0], 20);
    }

    /** Till an exchange is complete no other begins, whatever is sent. */
    private static void limitHasNoSayInAnExchange() {
        Rig r = Rig.ready();
        r.x.set(1, 4, 256);
        Peer p = Peer.client(r);
        r.x.rekey(1);
        p.theirInit = p.next();
        for (int i = 0; i < 8; i++) {
            p.send(Msg.of(77));
            Check.due("3", p.next()[0], 3);
            p.saysNothing("no second KEXINIT");
        }
        p.ownInit = Plain.rekeys().bytes();
        p.send(new Msg().raw(p.ownInit));
        p.exchangesAsClient();
        p.saysNothing("nothing was sent behind 21");
        Rig open = Rig.ready();
        open.x.set(1, 4, 256);
        Peer q = new Peer(open, 0).begins();
        q.exchangesAsClient();
        q.saysNothing("what was sent without keys does not count");
    }

    /** The other's KEXINIT is due whenever it has had 21 since the last one. */
    private static void kexinitIsDueAgainBehind21() {
        Peer p = Peer.client(Rig.ready());
        for (int i = 2; i < 5; i++) {
            p.ownInit = Plain.rekeys().bytes();
            p.send(new Msg().raw(p.ownInit));
            p.theirInit = p.next();
            Check.due("its own", p.theirInit[0], 20);
            p.exchangesAsClient();
            Check.due("exchanges", p.rig.x.about(1, 4), i);
        }
        Check.due("one", p.send(Plain.init()).state(), "1/0");
        Check.due("a second before 21", p.send(Plain.init()).state(), "2/2");
        Check.due("two before the first exchange", Plain.answered(Plain.init(), Plain.init()), "2/2/2");
    }

    private static String rekeyed(Rig r, int e) {
        try {
            r.x.rekey(e);
            return "begins";
        } catch (IllegalStateException no) {
            return "refused";
        }
    }

    /** In each part of an exchange. */
    private static void rekeyIsRefused() {
        Rig r = Rig.ready();
        Check.due("not started", rekeyed(r, 0) + " " + rekeyed(r, 1), "refused refused");
        r.x.start();
        for (int i = 0; r.x.about(0, 4) + r.x.about(1, 4) < 2 && i < 20; i++) {
            for (int e = 0; e <= 1; e++) {
                Check.holds("END " + e + " at " + i, rekeyed(r, e).equals("begins") == (r.x.about(e, 4) == 1));
            }
            if (r.x.about(0, 4) + r.x.about(1, 4) > 0) {
                break;
            }
            r.x.move(i & 1, 100000);
        }
        r.settle();
        Check.due("when complete", rekeyed(r, 0), "begins");
        Check.due("KEXINIT was sent", rekeyed(r, 0), "refused");
        Check.due("the other has sent none", rekeyed(r, 1), "begins");
        Check.due("now it has", rekeyed(r, 1), "refused");
        r.settle();
        Check.due("again", rekeyed(r, 1), "begins");
        r.settle();
        r.x.quit(1);
        Check.due("CLOSED", rekeyed(r, 1), "refused");
        r.settle();
        Check.due("CLOSED by the other", rekeyed(r, 0), "refused");
    }

    /** The first H is the session's id, of each connection anew. */
    private static void firstIdStays() {
        Rig r = Rig.ready();
        r.x.start();
        Check.due("none yet", r.x.about(0, 11) + "/" + r.x.about(1, 11), "0/0");
        r.settle();
        int id = r.x.about(0, 11);
        Check.due("both have it", r.x.about(1, 11), id);
        r.x.rekey(0);
        r.settle();
        Check.due("it stays", r.x.about(0, 11) + "/" + r.x.about(1, 11), id + "/" + id);
        r.x.start();
        Check.due("a new connection has none", r.x.about(0, 11) + "/" + r.x.about(1, 11), "0/0");
        r.settle();
        Check.holds("then another", r.x.about(0, 11) != id && r.x.about(0, 11) == r.x.about(1, 11));
    }
}
