import java.util.Arrays;
import java.util.NoSuchElementException;

/** Promises 9 to 11, 13 and 19: lines, packets and the exchange of keys, on a wire that is altered. */
public final class TransportTest {
    public static void main(String[] args) {
        lines();
        linesPassedOver();
        lengths();
        plainMessages();
        malformed();
        choices();
        noChoice();
        wrongGuess();
        startsAnew();
        server30();
        client31();
        notDue();
        unnamed();
        enciphered();
        rekeys();
        limit();
        limitBehindAnExchange();
        nothingBehindTheLast();
        limitAheadOfTheLast();
        waits();
        waitsTooMuch();
        wireIsFull();
        Check.close();
    }

    private static void lines() {
        for (int e = 0; e < 2; e++) {
            Check.due("least line", Plain.first(e, Rig.latin("SSH-2.0-\n")), "1/0");
            Check.due("with CR", Plain.first(e, Rig.latin("SSH-2.0-a b~\r\n")), "1/0");
            Check.due("255 bytes", Plain.first(e, Plain.line(255, "SSH-2.0-", "\r\n")), "1/0");
            Check.due("256 bytes", Plain.first(e, Plain.line(256, "SSH-2.0-", "\r\n")), "2/8");
            Check.due("255 bytes without LF", Plain.first(e, Plain.line(255, "SSH-2.0-", "")), "1/0");
            Check.due("256 bytes without LF", Plain.first(e, Plain.line(256, "other", "")), "2/8");
            Check.due("another version", Plain.first(e, Rig.latin("SSH-1.99-x\r\n")), "2/8");
            Check.due("too short", Plain.first(e, Rig.latin("SSH-2.0\r\n")), "2/8");
            Check.due("two CR", Plain.first(e, Rig.latin("SSH-2.0-x\r\r\n")), "2/8");
            Check.due("byte 31", Plain.first(e, Rig.latin("SSH-2.0-x\u001f\n")), "2/8");
            Check.due("byte 127", Plain.first(e, Rig.latin("SSH-2.0-x\u007f\n")), "2/8");
            Check.due("byte 200", Plain.first(e, Rig.latin("SSH-2.0-x\u00c8\n")), "2/8");
        }
        Check.due("another line at the server", Plain.first(1, Rig.latin("hello\n")), "2/8");
        Check.due("another line at the client", Plain.first(0, Rig.latin("hello\n")), "1/0");
        Check.due("an empty line at the server", Plain.first(1, Rig.latin("\n")), "2/8");
    }

    private static void linesPassedOver() {
        Check.due("eight", Plain.first(0, Rig.latin("\r\nSSH\n3\n4\n5\n6\n7\n\u00ff\nSSH-2.0-x\n")), "1/0");
        Check.due("nine", Plain.first(0, Rig.latin("1\n2\n3\n4\n5\n6\n7\n8\n9\n")), "2/8");
        Rig r = Rig.ready();
        r.x.start();
        byte[] wire = r.wire(0);
        r.rewire(0, Crypto.join(Rig.latin("\n\n\nabc\n"), wire));
        r.settle();
        Check.due("and then all goes on", r.x.about(0, 8), 1);
    }

    private static void lengths() {
        Check.due("7 bytes of a wrong length", Plain.behindLine(Crypto.bytes("00000000000000")).state(1), "1/0");
        Check.due("length 0", Plain.behindLine(Crypto.bytes("0000000000000000")).state(1), "2/2");
        Check.due("length 4", Plain.behindLine(Crypto.bytes("0000000400000000")).state(1), "2/2");
        Check.due("length 12", Plain.behindLine(Crypto.bytes("0000000c00000000")).state(1), "1/0");
        Check.due("length 13", Plain.behindLine(Crypto.bytes("0000000d00000000")).state(1), "2/2");
        Check.due("length 34996", Plain.behindLine(Crypto.bytes("000088b400000000")).state(1), "1/0");
        Check.due("length 35004", Plain.behindLine(Crypto.bytes("000088bc00000000")).state(1), "2/2");
        Check.due("length below 0", Plain.behindLine(Crypto.bytes("ffffff0c00000000")).state(1), "2/2");
        Check.due("padding 3", Plain.behindLine(new Msg().u32(12).u8(3).raw(new byte[11]).bytes()).state(1), "2/2");
        Check.due("padding 11 of 12", Plain.behindLine(new Msg().u32(12).u8(11).raw(new byte[11]).bytes()).state(1), "2/2");
        Rig r = Plain.behindLine(new Msg().u32(12).u8(10).u8(200).raw(new byte[10]).bytes());
        Check.due("padding 10 of 12", r.state(1), "1/0");
        Check.due("it is taken", r.x.about(1, 3), 1);
        Check.due("and answered by 3", r.x.about(0, 5), 282 + 16);
        Check.due("with its number", Arrays.copyOfRange(r.wire(0), 282, 292), Crypto.bytes("0000000c060300000000"));
        Check.due("not taken", Plain.behindLine(new Msg().u32(12).u8(3).raw(new byte[11]).bytes()).x.about(1, 3), 0);
    }

    private static void plainMessages() {
        Check.due("1", Plain.answered(Msg.of(1).u32(77).str("bye").str("en")), "3/77/1");
        Check.due("1 with more", Plain.answered(Msg.of(1).u32(77).str("bye").str("en").u8(1)), "3/77/1");
        Check.due("1 without language", Plain.answered(Msg.of(1).u32(77).str("bye")), "2/2/1");
        Check.due("2, 3, 4", Plain.answered(Msg.of(2).str("x"), Msg.of(3).u32(0), Msg.of(4).u8(1).str("").str("y").u32(5)), "1/0/3");
        Check.due("2 cut off", Plain.answered(Msg.of(2).u32(5)), "2/2/1");
        Check.due("3 cut off", Plain.answered(Msg.of(3).u8(5)), "2/2/1");
        Check.due("4 cut off", Plain.answered(Msg.of(4).u8(5).str("a")), "2/2/1");
        Check.due("unnamed", Plain.answered(Msg.of(200), Msg.of(0), Msg.of(19), Msg.of(53), Msg.of(101)), "1/0/5");
        for (int number : new int[] {5, 6, 21, 30, 31, 50, 51, 52, 60, 80, 81, 82, 90, 91, 92, 93, 94, 95, 96, 97, 98, 99, 100}) {
            Check.due(number + " before 20", Plain.answered(Msg.of(number).str("ssh-userauth")), "2/2/1");
        }
    }

    private static void malformed() {
        Msg good = Plain.init("curve25519-sha256", "ssh-ed25519", Plain.LISTS, 0);
        Check.due("20", Plain.answered(good), "1/0/1");
        Check.due("20 with more", Plain.answered(new Msg().raw(good.bytes()).u8(0)), "2/2/1");
        Check.due("20 cut off", Plain.answered(new Msg().raw(Arrays.copyOf(good.bytes(), good.bytes().length - 1))), "2/2/1");
        Check.due("20 twice", Plain.answered(good, good), "2/2/2");
        Check.due("2 behind 20", Plain.answered(good, Msg.of(2).str("")), "1/0/2");
        Check.due("unnamed behind 20", Plain.answered(good, Msg.of(200)), "2/2/2");
        Check.due("21 with more", Plain.answered(good, Msg.of(30).str(Crypto.x25519Public(Rig.HOST)), Msg.of(21).u8(0)), "2/2/3");
        Check.due("30 with more", Plain.answered(good, Msg.of(30).str(new byte[32]).u8(0)), "2/2/2");
    }

    /** Each direction has its own: the client's first that the server has. */
    private static void choices() {
        Rig r = Rig.ready();
        r.x.start();
        Msg mine = Plain.init("x,curve25519-sha256@libssh.org", ",ssh-rsa,ssh-ed25519,", Plain.six("aes256-ctr,aes128-ctr",
                "3des-cbc,aes128-ctr", "hmac-sha2-256", "none,hmac-sha2-256-etm@openssh.com,hmac-sha2-256", "zlib,none",
                "none,zlib"), 0);
        byte[] payload = mine.bytes();
        byte[] p = Crypto.join(Arrays.copyOf(r.wire(1), 18), Plain.packet(64 + 8 - (5 + payload.length) % 8, payload));
        r.rewire(1, p);
        r.x.move(1, 1000);
        Check.due("something to choose", r.state(1), "1/0");
        byte[] q = Plain.packet(6, Msg.of(30).str(Crypto.x25519Public(Rig.HOST)).bytes());
        r.tape(q).x.inject(1);
        r.x.move(1, 1000);
        Check.due("cipher", r.x.about(1, 6), 1);
        Check.due("mac", r.x.about(1, 7), 2);
        Check.due("31 and 21 are sent", r.x.about(1, 2), 3);
        Check.due("no exchange is complete", r.x.about(1, 4), 0);
        r.tape(Plain.packet(10, new byte[] {21})).x.inject(1);
        r.x.move(1, 1000);
        Check.due("one exchange is complete", r.x.about(1, 4), 1);
        Check.due("open", r.state(1), "1/0");
    }

    private static void noChoice() {
        String[] names = {"curve25519-sha256", "ssh-ed25519", "aes128-ctr", "aes128-ctr", "hmac-sha2-256", "hmac-sha2-256",
            "none", "none"};
        for (int i = 0; i < 8; i++) {
            for (String other : new String[] {"", "x", "aes128-ct", names[i] + "x", "x" + names[i]}) {
                String[] n = names.clone();
                n[i] = other;
                Msg m = Plain.init(n[0], n[1], Plain.six(n[2], n[3], n[4], n[5], n[6], n[7]), 0);
                Check.due("no choice in list " + i, Plain.answered(m), "2/3/1");
            }
        }
        Rig r = Rig.ready();
        r.x.set(0, 1, 1);
        r.x.set(1, 1, 2);
        r.x.start();
        r.x.move(0, 1000);
        Check.due("at the client", r.state(0), "2/3");
        Check.due("it has sent MESSAGE 1", r.x.about(0, 2), 2);
    }

    private static void wrongGuess() {
        Msg right = Plain.init("curve25519-sha256,x", "ssh-ed25519,y", Plain.LISTS, 1);
        Msg keys = Plain.init("curve25519-sha256@libssh.org", "ssh-ed25519", Plain.LISTS, 255);
        Msg host = Plain.init("curve25519-sha256", "ssh-rsa,ssh-ed25519", Plain.LISTS, 1);
        Msg none = Plain.init("curve25519-sha256@libssh.org", "ssh-ed25519", Plain.LISTS, 0);
        Check.due("right guess", Plain.answered(right, Msg.of(31)), "2/2/2");
        Check.due("no guess", Plain.answered(none, Msg.of(31)), "2/2/2");
        Check.due("wrong keys", Plain.answered(keys, Msg.of(31)), "1/0/2");
        Check.due("wrong host key", Plain.answered(host, Msg.of(31)), "1/0/2");
        Check.due("only the next", Plain.answered(host, Msg.of(31), Msg.of(31)), "2/2/3");
    }

    private static void startsAnew() {
        Msg wrong = Plain.init("curve25519-sha256@libssh.org", "ssh-ed25519", Plain.LISTS, 1);
        byte[] payload = wrong.bytes();
        Rig r = Plain.behindLine(Plain.packet(8 + 8 - (5 + payload.length) % 8, payload));
        r.x.start();
        r.settle();
        Check.due("nothing is passed over", r.x.about(0, 8), 1);
        r.x.start();
        r.x.move(0, 5);
        r.x.move(1, 100);
        r.x.start();
        r.settle();
        Check.due("what had come in part is forgotten", r.x.about(0, 8), 1);
        for (int i = 0; i < 2; i++) {
            r.x.start();
            r.rewire(0, Crypto.join(Rig.latin("1\n2\n3\n4\n5\n6\n7\n8\n"), r.wire(0)));
            r.x.move(0, 100);
            Check.due("eight lines are passed over each time", r.state(0), "1/0");
        }
        r.secret(2, Rig.IDENTITY).secret(4, Crypto.edPublic(Rig.IDENTITY));
        r.x.start();
        r.settle();
        Check.due("with another host key", r.x.about(0, 8), 1);
    }

    private static void server30() {
        Msg good = Plain.init("curve25519-sha256", "ssh-ed25519", Plain.LISTS, 0);
        Check.due("30 of 31 bytes", Plain.answered(good, Msg.of(30).str(new byte[31])), "2/3/2");
        Check.due("30 of 33 bytes", Plain.answered(good, Msg.of(30).str(new byte[33])), "2/3/2");
        Check.due("a shared secret of 0", Plain.answered(good, Msg.of(30).str(new byte[32])), "2/3/2");
        byte[] one = new byte[32];
        one[0] = 1;
        Check.due("another of 0", Plain.answered(good, Msg.of(30).str(one)), "2/3/2");
        byte[] point = Crypto.x25519Public(Rig.HOST);
        Check.due("30", Plain.answered(good, Msg.of(30).str(point)), "1/0/2");
        Check.due("30 twice", Plain.answered(good, Msg.of(30).str(point), Msg.of(30).str(point)), "2/2/3");
        Check.due("21 before 30", Plain.answered(good, Msg.of(21)), "2/2/2");
        Check.due("31 at the server", Plain.answered(good, Msg.of(31).str("").str("").str("")), "2/2/2");
        point[31] ^= (byte) 128;
        Check.due("the highest bit does not count", Plain.answered(good, Msg.of(30).str(point)), "1/0/2");
    }

    /** The client's state, and whether it knows a session's id, behind a 31 with this of it changed. */
    private static String with31(byte[] hostKey, byte[] point, byte[] signatureName, int change, boolean more) {
        Rig r = Rig.ready();
        Peer p = new Peer(r, 1).begins();
        p.answers30();
        byte[] signed = Crypto.edSign(Rig.HOST, p.hash);
        if (change >= 0) {
            signed[change] ^= 1;
        }
        byte[] own = point == null ? Crypto.x25519Public(p.secret) : point;
        byte[] host = hostKey == null ? Peer.blob(Crypto.edPublic(Rig.HOST)) : hostKey;
        byte[] signature = new Msg().raw(signatureName).str(signed).bytes();
        Msg m = Msg.of(31).str(host).str(own).str(signature);
        p.send(more ? m.u8(0) : m);
        return r.state(0) + "/" + (r.x.about(0, 11) != 0);
    }

    private static void client31() {
        byte[] name = new Msg().str("ssh-ed25519").bytes();
        byte[] pub = Crypto.edPublic(Rig.HOST);
        Check.due("31", with31(null, null, name, -1, false), "1/0/true");
        Check.due("31 with more", with31(null, null, name, -1, true), "2/2/false");
        Check.due("wrong R", with31(null, null, name, 0, false), "2/3/true");
        Check.due("wrong S", with31(null, null, name, 40, false), "2/3/true");
        Check.due("signature's name", with31(null, null, new Msg().str("ssh-ed25518").bytes(), -1, false), "2/3/false");
        Check.due("Q_S of 31", with31(null, new byte[31], name, -1, false), "2/3/false");
        Check.due("K of 0", with31(null, new byte[32], name, -1, false), "2/3/false");
        Check.due("K_S's name", with31(new Msg().str("ssh-rsa").str(pub).bytes(), null, name, -1, false), "2/3/false");
        Check.due("K_S with more", with31(new Msg().raw(Peer.blob(pub)).u8(0).bytes(), null, name, -1, false), "2/3/false");
        Check.due("K_S of 31", with31(Peer.blob(Arrays.copyOf(pub, 31)), null, name, -1, false), "2/3/false");
        Check.due("another K_S", with31(Peer.blob(Crypto.edPublic(Rig.IDENTITY)), null, name, -1, false), "2/3/true");
        byte[] notAPoint = new byte[32];
        notAPoint[0] = 2;
        Check.due("K_S that is no point", with31(Peer.blob(notAPoint), null, name, -1, false), "2/3/true");

        Rig r = Rig.ready().secret(4, Crypto.edPublic(Rig.IDENTITY));
        r.x.start();
        r.settle();
        Check.due("another host key is known", r.state(0) + r.state(1), "2/93/9");
        Rig s = new Rig().secret(2, Rig.HOST);
        s.x.start();
        s.settle();
        Check.due("none is known: it goes on, till no method is left", s.state(0) + s.state(1), "2/143/14");
    }

    private static void notDue() {
        for (int number : new int[] {21, 30, 31, 22 + 20, 51, 52, 60, 6, 50, 80, 90, 94, 99}) {
            Rig r = Rig.ready();
            Peer p = Peer.client(r);
            p.send(Msg.of(number).str("ssh-userauth"));
            Check.due(number + " behind the exchange at the server", r.state(1), number == 42 ? "1/0" : "2/2");
        }
        for (int number : new int[] {21, 30, 31, 5, 50, 51, 52, 60, 80, 90, 94, 99}) {
            Rig r = Rig.ready();
            Peer p = Peer.server(r);
            p.send(Msg.of(number).str("ssh-userauth"));
            Check.due(number + " behind the exchange at the client", r.state(0), "2/2");
        }
        Rig r = Rig.ready();
        Peer p = Peer.client(r);
        p.send(Msg.of(2).str("x"));
        p.send(Msg.of(77));
        Check.due("3 with the number", p.next(), Msg.of(3).u32(4).bytes());
        p.send(Msg.of(1).u32(12).str("").str(""));
        Check.due("told", r.state(1), "3/12");
    }

    /** All numbers that the document does not name, at both ENDS, before proof and behind it. */
    private static void unnamed() {
        for (int kind = 0; kind < 4; kind++) {
            Rig r = Rig.ready();
            Peer p = kind == 0 ? Peer.client(r) : kind == 1 ? Peer.provenClient(r)
                    : kind == 2 ? Peer.server(r) : Peer.provenServer(r);
            if (kind == 2) {
                Check.due("5", p.next()[0], 5);
            }
            for (int number = 0; number < 256; number++) {
                boolean named = number >= 1 && number <= 6 || number == 20 || number == 21 || number == 30 || number == 31
                        || number >= 50 && number <= 52 || number == 60 || number >= 80 && number <= 82
                        || number >= 90 && number <= 100;
                if (!named) {
                    int taken = p.packetsOut;
                    p.send(Msg.of(number));
                    Check.due("unnamed " + number, p.next(), Msg.of(3).u32(taken).bytes());
                }
            }
            Check.due("open all the while", r.state(p.other()), "1/0");
        }
    }

    private static void enciphered() {
        for (int mac = 1; mac <= 2; mac++) {
            for (int at : new int[] {0, 3, 5, 20, 50, 60}) {
                Rig r = Rig.ready();
                r.x.set(1, 1, mac);
                Peer p = new Peer(r, 0);
                p.mac = mac;
                p.begins().exchangesAsClient();
                byte[] b = p.sealed(Msg.of(5).str("ssh-userauth").bytes());
                r.tape(b).x.inject(1);
                r.x.flip(1, at, 1);
                int taken = r.x.about(1, 3);
                r.x.move(1, b.length);
                Check.due("byte " + at + " altered, MAC " + mac, r.state(1), at < 4 ? "2/2" : "2/5");
                Check.due("it is not taken", r.x.about(1, 3), taken);
            }
            for (int padding = 3; padding <= 5; padding += 2) {
                Rig r = Rig.ready();
                r.x.set(1, 1, mac);
                Peer p = new Peer(r, 0);
                p.mac = mac;
                p.begins().exchangesAsClient();
                byte[] b = p.sealed(Msg.of(2).u32(0).raw(new byte[(mac == 1 ? 6 : 10) - padding]).bytes(), padding);
                r.tape(b).x.inject(1);
                r.x.move(1, b.length - 1);
                Check.due("not whole yet", r.state(1), "1/0");
                r.x.move(1, 1);
                Check.due("MAC " + mac + ", padding " + padding, r.state(1), padding == 3 ? "2/2" : "1/0");
            }
        }
        Rig r = Rig.ready();
        Peer p = Peer.client(r);
        r.tape(p.sealed(new byte[12], 3)).x.inject(1);
        r.x.move(1, 1000);
        Check.due("padding 3 in ETM", r.state(1), "2/2");
        byte[] sent = Msg.from(p.next()).takeRaw(5);
        Check.due("told", sent, Crypto.bytes("0100000002"));
    }

    private static void rekeys() {
        Rig r = Rig.ready().withKey();
        r.x.start();
        Check.throwing("rekey too early", IllegalStateException.class, () -> r.x.rekey(0));
        r.settle();
        int id = r.x.about(0, 11);
        r.x.set(0, 0, 1);
        r.x.set(1, 1, 1);
        r.x.rekey(0);
        Check.throwing("rekey twice", IllegalStateException.class, () -> r.x.rekey(0));
        r.x.rekey(1);
        r.settle();
        Check.due("two exchanges", r.x.about(0, 4) + r.x.about(1, 4), 4);
        Check.due("the first H stays", r.x.about(0, 11), id);
        Check.due("cipher", r.x.about(1, 6), 1);
        Check.due("mac", r.x.about(1, 7), 1);
        r.x.rekey(1);
        r.x.move(0, 10000);
        Check.throwing("its KEXINIT is sent as an answer", IllegalStateException.class, () -> r.x.rekey(0));
        r.settle();
        Check.due("three exchanges", r.x.about(0, 4) + r.x.about(1, 4), 6);
        Check.throwing("rekey nowhere", NoSuchElementException.class, () -> r.x.rekey(2));
        r.x.quit(0);
        Check.throwing("rekey when closed", IllegalStateException.class, () -> r.x.rekey(0));
        Check.due("still a shell", Rig.proven().run("echo x", ""), "0|x\n|");
        Rig s = Rig.ready();
        Peer p = Peer.client(s);
        s.x.rekey(1);
        p.theirInit = p.next();
        p.ownInit = Plain.rekeys().bytes();
        p.send(new Msg().raw(p.ownInit));
        p.exchangesAsClient();
        Check.due("against the library", s.x.about(1, 4), 2);
        p.send(Msg.of(5).str("ssh-userauth"));
        Check.due("with new keys", p.next(), Msg.of(6).str("ssh-userauth").bytes());
    }

    private static void limit() {
        Rig r = Rig.ready();
        r.x.set(1, 4, 256);
        Peer p = Peer.provenClient(r);
        // 6 is 68 bytes, 52 is 52: 82 (52 bytes) and one more reach 256 with the fifth packet.
        for (int i = 0; i < 2; i++) {
            p.send(Msg.of(80).str("x").u8(1));
            Check.due("82", p.next(), new byte[] {82});
            Check.due("no KEXINIT yet at " + i, p.next() == null ? 1 : 0, 1);
        }
        p.send(Msg.of(80).str("x").u8(1));
        Check.due("82 reaches it", p.next(), new byte[] {82});
        Check.due("KEXINIT behind it", p.next()[0], 20);
        Rig s = Rig.ready().withKey();
        s.x.set(0, 4, 256);
        s.x.set(1, 4, 256);
        s.x.start();
        s.settle();
        Check.due("proven all the same", s.x.about(0, 8), 1);
        Check.due("with an exchange more", s.x.about(0, 4), 2);
        Check.due("and it works", s.run("put f", "some more than a few bytes"), "0||");
        Check.due("so it does", s.run("get f", ""), "0|some more than a few bytes|");
        Check.due("both complete as many", s.x.about(0, 4), s.x.about(1, 4));
    }

    /** What waited is more than LIMIT: KEXINIT as soon as the exchange is complete. */
    private static void limitBehindAnExchange() {
        Rig r = Rig.ready();
        Peer p = Peer.provenClient(r);
        r.x.rekey(1);
        p.theirInit = p.next();
        for (int i = 0; i < 6; i++) {
            p.send(Msg.of(80).str("x").u8(1));
        }
        r.x.set(1, 4, 256);
        p.ownInit = Plain.rekeys().bytes();
        p.send(new Msg().raw(p.ownInit));
        p.exchangesAsClient();
        for (int i = 0; i < 6; i++) {
            Check.due("82 that waited", p.next(), new byte[] {82});
        }
        Check.due("KEXINIT behind them", p.next()[0], 20);
    }

    /** MESSAGE 1 reaches LIMIT, by quit or by DISCONNECT, and yet no KEXINIT follows it. */
    private static void nothingBehindTheLast() {
        for (int quits = 0; quits <= 1; quits++) {
            Rig r = Rig.ready();
            r.x.set(1, 4, 256);
            Peer p = Peer.provenClient(r);
            for (int i = 0; i < 2; i++) {
                p.send(Msg.of(80).str("x").u8(1));
                Check.due("82", p.next(), new byte[] {82});
            }
            int sent = r.x.about(1, 2);
            if (quits == 1) {
                r.x.quit(1);
            } else {
                p.send(Msg.of(81));
            }
            Check.due("MESSAGE 1", p.next(), Msg.of(1).u32(quits == 1 ? 11 : 2).str("").str("").bytes());
            Check.due("and nothing behind it", p.next() == null ? 1 : 0, 1);
            Check.due("one packet more", r.x.about(1, 2), sent + 1);
            Check.due("how it ended", r.state(1), quits == 1 ? "3/11" : "2/2");
        }
    }

    /** The sixth 51 reaches LIMIT: KEXINIT behind it, and only then the DISCONNECT. */
    private static void limitAheadOfTheLast() {
        Rig r = Rig.ready();
        // 6 and each 51 are 68 bytes.
        r.x.set(1, 4, 7 * 68);
        Peer p = Peer.client(r);
        p.send(Msg.of(5).str("ssh-userauth"));
        Check.due("6", p.next()[0], 6);
        for (int i = 1; i <= 6; i++) {
            p.send(Msg.of(50).str("al").str("ssh-connection").str("another"));
            Check.due("51 of failure " + i, p.next()[0], 51);
        }
        Check.due("KEXINIT behind the sixth", p.next()[0], 20);
        Check.due("then MESSAGE 1", p.next(), Msg.of(1).u32(14).str("").str("").bytes());
        Check.due("then nothing", p.next() == null ? 1 : 0, 1);
    }

    private static void waits() {
        Rig r = Rig.ready();
        Peer p = Peer.provenClient(r);
        r.x.rekey(1);
        p.theirInit = p.next();
        int sent = r.x.about(1, 2);
        p.send(Msg.of(80).str("x").u8(1));
        p.send(Msg.of(90).str("session").u32(3).u32(100).u32(50));
        Check.due("answers wait", r.x.about(1, 2), sent);
        Check.due("the channel is there", r.x.about(1, 9), 1);
        p.send(Msg.of(99 + 78));
        Check.due("3 does not wait", Arrays.copyOf(p.next(), 1), new byte[] {3});
        p.ownInit = Plain.rekeys().bytes();
        p.send(new Msg().raw(p.ownInit));
        p.exchangesAsClient();
        Check.due("82 behind 21", p.next(), new byte[] {82});
        Check.due("91 behind it", p.next(), Msg.of(91).u32(3).u32(0).u32(4096).u32(1024).bytes());
        Check.due("and no more", p.next() == null ? 1 : 0, 1);
        Rig c = Rig.proven();
        c.x.rekey(0);
        int number = c.x.open(0);
        Check.due("asked for", c.x.channel(number, 0), 0);
        c.settle();
        Check.due("there", c.x.channel(number, 0), 1);
    }

    /** Each that waits counts its bytes and 4 more, up to 65,536. */
    private static void waitsTooMuch() {
        for (int over = 0; over <= 1; over++) {
            Rig r = Rig.ready();
            r.x.set(1, 2, 16384);
            r.x.set(1, 3, 32768);
            Peer p = Peer.provenClient(r);
            p.send(Msg.of(90).str("session").u32(3).u32(1 << 20).u32(32768));
            p.next();
            p.send(Msg.of(98).u32(0).str("exec").u8(0).str("cat"));
            r.x.rekey(1);
            // A 94 of n bytes counts n + 13, the 93 behind each of these 13.
            int left = 65536;
            for (int n : new int[] {16000, 16000, 16000, 10000}) {
                p.send(Msg.of(94).u32(0).str(new byte[n]));
                left -= n + 13 + 13;
            }
            Check.due("open till then", r.state(1), "1/0");
            p.send(Msg.of(94).u32(0).str(new byte[left - 13 + over]));
            Check.due("what waits, over " + over, r.state(1), over == 1 ? "2/10" : "1/0");
        }
    }

    private static void wireIsFull() {
        for (int room = 67; room <= 68; room++) {
            Rig r = Rig.proven();
            int left = 131072 - r.x.about(1, 5) - room;
            while (left > 0) {
                int n = Math.min(left, 65000);
                r.tape(new byte[n]).x.inject(1);
                left -= n;
            }
            int sent = r.x.about(0, 2);
            int number = r.x.open(0);
            Check.due("90 of 68 bytes with room for " + room, r.state(0), room == 68 ? "1/0" : "2/10");
            Check.due("packets", r.x.about(0, 2), room == 68 ? sent + 1 : sent);
            Check.due("the wire", r.x.about(1, 5), room == 68 ? 131072 : 131072 - room);
            Check.due("its number", number, 0);
            if (room == 68) {
                r.x.quit(0);
                Check.due("no room for MESSAGE 1", r.state(0), "2/10");
            }
        }
    }
}
