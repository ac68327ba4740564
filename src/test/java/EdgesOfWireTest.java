import java.lang.reflect.Field;
import java.util.Arrays;

/** ENDS, the WIRE, VERSIONS, PACKETS and their taking, DISCONNECT and LOSS: promises 9 to 13, 19 to 21, at their edges. */
public final class EdgesOfWireTest {
    private static final int MAC = 1;
    private static final int ETM = 2;

    public static void main(String[] args) throws ReflectiveOperationException {
        notStarted();
        notOpenAnyMore();
        roomForAMessage();
        roomFor31And21();
        roomForADisconnect();
        roomForKexinit();
        roomForTheSixth51();
        roomForWhatWaited();
        linesOf255();
        linesPassedOver();
        bytesOfALine();
        beginningOfALine();
        firstBytesOfAPacket();
        leastLength();
        greatestLength();
        multiplesOfTheBlock();
        paddings();
        leastPadding();
        theLastByteOfAPacket();
        eachByteVouchedFor();
        reasonsThatAreTold();
        passedOverAtAnyTime();
        unnamedInAnExchange();
        numbersGoRound();
        Check.close();
    }

    /** Not started: what comes is passed over, and nothing is sent. */
    private static void notStarted() {
        Rig r = Rig.ready();
        for (int e = 0; e <= 1; e++) {
            r.tape("SSH-2.0-x\r\n").x.inject(e);
            Check.due("it is taken off the wire", r.x.move(e, 100), 0);
            r.tape(Plain.packet(new byte[] {77})).x.inject(e);
            Check.due("all of it", r.x.move(e, 100), 0);
            Check.due("state", r.state(e), "0/0");
            Check.due("packets", r.x.about(e, 2) + r.x.about(e, 3), 0);
        }
        Check.due("nothing is sent", r.x.about(0, 5) + r.x.about(1, 5), 0);
        r.x.start();
        r.settle();
        Check.due("and it is of no matter", r.x.about(0, 8), 1);
    }

    /** BROKEN, CLOSED by itself, CLOSED by the other: what comes is passed over, and nothing is sent. */
    private static void notOpenAnyMore() {
        for (int how = 0; how < 3; how++) {
            Peer p = Peer.client(Rig.ready());
            if (how == 0) {
                p.send(Msg.of(81));
            } else if (how == 1) {
                p.rig.x.quit(1);
            } else {
                p.send(Msg.of(1).u32(4).str("").str(""));
            }
            String state = p.state();
            Check.due("state", state, how == 0 ? "2/2" : how == 1 ? "3/11" : "3/4");
            String before = Seen.all(p.rig.x);
            p.send(Msg.of(77));
            p.send(Msg.of(5).str("ssh-userauth"));
            p.send(Msg.of(1).u32(8).str("").str(""));
            p.sendBytes(new byte[50]);
            Check.due("nothing happens behind " + state, Seen.all(p.rig.x), before);
        }
    }

    /** At most 131,072: of a MESSAGE that does not fit nothing is put. */
    private static void roomForAMessage() {
        for (int room = 51; room <= 52; room++) {
            Peer p = Peer.provenClient(Rig.ready());
            p.rig.fill(0, room);
            int sent = p.rig.x.about(1, 2);
            p.send(Msg.of(80).str("x").u8(1));
            Check.due("82 of 52 bytes with room for " + room, p.state(), room == 52 ? "1/0" : "2/10");
            Check.due("packets", p.rig.x.about(1, 2), room == 52 ? sent + 1 : sent);
            Check.due("the wire", p.rig.x.about(0, 5), room == 52 ? 131072 : 131072 - room);
            p.send(Msg.of(80).str("x").u8(1));
            Check.due("no room for one more", p.state(), "2/10");
        }
    }

    /** 31 has 192 bytes and 21 has 16: without room for both, the keys do not change. */
    private static void roomFor31And21() {
        for (int room : new int[] {191, 192, 207, 208}) {
            Rig r = Rig.ready();
            Peer p = new Peer(r, 0).begins();
            r.fill(0, room);
            p.send(Msg.of(30).str(Crypto.x25519Public(p.secret)));
            Check.due("room for " + room, p.state(), room == 208 ? "1/0" : "2/10");
            Check.due("packets", r.x.about(1, 2), room == 191 ? 1 : room == 208 ? 3 : 2);
            Check.due("keys", r.x.about(1, 6), room == 208 ? 1 : 0);
            Check.holds("H is worked out", r.x.about(1, 11) != 0);
        }
    }

    /** Without room for MESSAGE 1, 24 bytes without keys, it is a LOSS. */
    private static void roomForADisconnect() {
        for (int room = 23; room <= 24; room++) {
            Rig r = Rig.ready();
            Peer p = new Peer(r, 0).begins();
            r.fill(0, room);
            p.send(Msg.of(21));
            Check.due("room for " + room, p.state(), room == 24 ? "2/2" : "2/10");
            Check.due("packets", r.x.about(1, 2), room == 24 ? 2 : 1);
            Rig q = Rig.ready();
            q.x.start();
            q.fill(1, room);
            q.x.quit(0);
            Check.due("quit with room for " + room, q.state(0), room == 24 ? "3/11" : "2/10");
        }
    }

    /** The KEXINIT that LIMIT asks for, 308 bytes, comes behind a MESSAGE that has room. */
    private static void roomForKexinit() {
        for (int room : new int[] {52 + 307, 52 + 308}) {
            Rig r = Rig.ready();
            r.x.set(1, 4, 256);
            Peer p = Peer.provenClient(r);
            p.send(Msg.of(80).str("x").u8(1));
            p.send(Msg.of(80).str("x").u8(1));
            r.fill(0, room);
            int sent = r.x.about(1, 2);
            p.send(Msg.of(80).str("x").u8(1));
            Check.due("room for " + room, p.state(), room == 360 ? "1/0" : "2/10");
            Check.due("packets", r.x.about(1, 2), room == 360 ? sent + 2 : sent + 1);
        }
    }

    /** Without room for the sixth 51 (68 bytes) there is no DISCONNECT 14 either. */
    private static void roomForTheSixth51() {
        for (int room : new int[] {67, 68, 135, 136}) {
            Peer p = Peer.client(Rig.ready());
            p.send(Msg.of(5).str("ssh-userauth"));
            for (int i = 0; i < 5; i++) {
                p.send(Msg.of(50).str("al").str("ssh-connection").str("x"));
            }
            p.rig.fill(0, room);
            int sent = p.rig.x.about(1, 2);
            p.send(Msg.of(50).str("al").str("ssh-connection").str("x"));
            Check.due("room for " + room, p.state(), room == 136 ? "2/14" : "2/10");
            Check.due("packets", p.rig.x.about(1, 2) - sent, room / 68);
        }
    }

    /** Behind 21 (52 bytes, with the old keys) what waited is sent in order, till there is no room. */
    private static void roomForWhatWaited() {
        for (int room : new int[] {192 + 52 + 52 + 51, 192 + 52 + 52 + 52}) {
            Peer p = Peer.provenClient(Rig.ready());
            p.rig.x.rekey(1);
            p.theirInit = p.next();
            p.send(Msg.of(80).str("x").u8(1));
            p.send(Msg.of(80).str("x").u8(1));
            p.ownInit = Plain.rekeys().bytes();
            p.send(new Msg().raw(p.ownInit));
            p.rig.fill(0, room + 36);
            int sent = p.rig.x.about(1, 2);
            p.send(Msg.of(30).str(Crypto.x25519Public(p.secret)));
            boolean all = room == 348;
            Check.due("room for " + room, p.state(), all ? "1/0" : "2/10");
            Check.due("31, 21 and what fits", p.rig.x.about(1, 2) - sent, all ? 4 : 3);
            Check.due("the wire", p.rig.x.about(0, 5), all ? 131072 : 131072 - 51);
        }
    }

    /** At most 255 bytes with LF; at the 256th: DISCONNECT 8. The lines that the client passes over, too. */
    private static void linesOf255() {
        for (int e = 0; e <= 1; e++) {
            Check.due("254", Plain.first(e, Plain.line(254, "SSH-2.0-", "\n")), "1/0");
            Check.due("255", Plain.first(e, Plain.line(255, "SSH-2.0-", "\n")), "1/0");
            Check.due("256", Plain.first(e, Plain.line(256, "SSH-2.0-", "\n")), "2/8");
            Check.due("255 that go on", Plain.first(e, Plain.line(255, "SSH-2.0-", "")), "1/0");
            Check.due("256 that go on", Plain.first(e, Plain.line(256, "SSH-2.0-", "")), "2/8");
        }
        byte[] good = Rig.latin("SSH-2.0-x\n");
        Check.due("255 passed over", Plain.first(0, Crypto.join(Plain.line(255, "x", "\r\n"), good)), "1/0");
        Check.due("256 passed over", Plain.first(0, Crypto.join(Plain.line(256, "x", "\r\n"), good)), "2/8");
        byte[] two = Crypto.join(Plain.line(200, "x", "\n"), Plain.line(200, "y", "\n"), good);
        Check.due("each counts for itself", Plain.first(0, two), "1/0");
    }

    /** The client passes up to 8 lines over that do not begin with SSH-. */
    private static void linesPassedOver() {
        String eight = "1\n22\n\nSSH\nssh-2.0-x\n SSH-2.0-x\n\u0000\u00ff\n\r\n";
        Check.due("8 and the right one", Plain.first(0, Rig.latin(eight + "SSH-2.0-x\n")), "1/0");
        Check.due("8 and the right one, LF to come", Plain.first(0, Rig.latin(eight + "SSH-2.0-x")), "1/0");
        Check.due("a ninth", Plain.first(0, Rig.latin(eight + "9\n")), "2/8");
        Check.due("a ninth, LF to come", Plain.first(0, Rig.latin(eight + "9")), "1/0");
        Check.due("one that begins with SSH-", Plain.first(0, Rig.latin("1\nSSH-\n")), "2/8");
        Check.due("SSH-1.5", Plain.first(0, Rig.latin("SSH-1.5-x\n")), "2/8");
        Check.due("none at the server", Plain.first(1, Rig.latin("\n")), "2/8");
        Rig r = Plain.begun(0, Rig.latin(eight + "SSH-2.0-x\n"));
        Check.due("nothing is sent about them", r.x.about(0, 2), 1);
    }

    /** Only bytes 32 .. 126; a CR before the LF does not belong to it. */
    private static void bytesOfALine() {
        for (int e = 0; e <= 1; e++) {
            for (int b = 0; b < 256; b++) {
                if (b != '\n') {
                    String line = "SSH-2.0-a" + (char) b + "b\r\n";
                    Check.due("byte " + b, Plain.first(e, Rig.latin(line)), b >= 32 && b <= 126 ? "1/0" : "2/8");
                }
            }
            Check.due("no CR", Plain.first(e, Rig.latin("SSH-2.0-a\n")), "1/0");
            Check.due("CR twice", Plain.first(e, Rig.latin("SSH-2.0-a\r\r\n")), "2/8");
            Check.due("a byte 31 may not come last", Plain.first(e, Rig.latin("SSH-2.0-a\u001f\r\n")), "2/8");
        }
    }

    private static void beginningOfALine() {
        String right = "SSH-2.0-";
        for (int e = 0; e <= 1; e++) {
            Check.due("no more than that", Plain.first(e, Rig.latin(right + "\r\n")), "1/0");
            for (int n = 4; n < 8; n++) {
                Check.due("only " + n, Plain.first(e, Rig.latin(right.substring(0, n) + "\n")), "2/8");
                String other = right.substring(0, n) + "x" + right.substring(n + 1);
                Check.due("other at " + n, Plain.first(e, Rig.latin(other + "x\n")), "2/8");
            }
        }
    }

    /** The first b bytes (ETM: 4) are looked at when they are there, and not before. */
    private static void firstBytesOfAPacket() {
        byte[] wrong = new byte[40];
        Rig r = Plain.behindLine(Arrays.copyOf(wrong, 7));
        Check.due("7 without keys", r.state(1), "1/0");
        r.x.move(1, 1);
        Check.due("8 without keys", r.state(1), "2/2");
        for (int plays = 0; plays <= 1; plays++) {
            for (int mac = MAC; mac <= ETM; mac++) {
                Peer p = Peer.with(plays, mac);
                byte[] b = p.sealedPlain(wrong);
                int first = mac == MAC ? 16 : 4;
                p.sendBytes(Arrays.copyOf(b, first - 1));
                Check.due("one byte less, MACS " + mac, p.state(), "1/0");
                p.sendBytes(Arrays.copyOfRange(b, first - 1, first));
                Check.due("all of them, MACS " + mac, p.state(), "2/2");
            }
        }
    }

    /** The END behind a packet that tells this length, of which only the beginning comes. */
    private static String told(int plays, int mac, long length) {
        Peer p = Peer.with(plays, mac);
        return p.sendBytes(Arrays.copyOf(p.sealedPlain(new Msg().u32(length).raw(new byte[28]).bytes()), 16)).state();
    }

    /** Below 12: DISCONNECT 2. */
    private static void leastLength() {
        for (int plays = 0; plays <= 1; plays++) {
            for (long length : new long[] {0, 4, 11, 0x80000000L, 0xfffffffcL, 0xfffffff0L}) {
                Check.due("length " + length + ", MAC", told(plays, MAC, length), "2/2");
                Check.due("length " + length + ", ETM", told(plays, ETM, length), "2/2");
            }
            Check.due("length 12, MAC", told(plays, MAC, 12), "1/0");
            Check.due("length 12, ETM", told(plays, ETM, 12), "2/2");
            Check.due("length 16, ETM", told(plays, ETM, 16), "1/0");
            Peer p = Peer.with(plays, MAC);
            p.sendBytes(p.sealed(new byte[] {77}, 10));
            Check.due("a packet of 12", p.state(), "1/0");
            Peer q = Peer.with(plays, ETM);
            q.sendBytes(q.sealed(new byte[] {77}, 14));
            Check.due("a packet of 16", q.state(), "1/0");
        }
    }

    /** A MESSAGE 2 in a packet of this length, with 4 bytes of padding. */
    private static byte[] ignored(int length) {
        return Msg.of(2).str(new byte[length - 10]).bytes();
    }

    /** Above 35,000: DISCONNECT 2. The greatest that fit are 34,996 without keys, 34,988, and 34,992 in ETM. */
    private static void greatestLength() {
        for (int e = 0; e <= 1; e++) {
            Rig r = Plain.behindLine(e, Plain.packet(4, ignored(34996)));
            Check.due("34,996", r.state(e) + "/" + r.x.about(e, 3), "1/0/1");
            Check.due("35,004", Plain.behindLine(e, Plain.packet(4, ignored(35004))).state(e), "2/2");
            for (int mac = MAC; mac <= ETM; mac++) {
                int most = mac == MAC ? 34988 : 34992;
                Peer p = Peer.with(1 - e, mac);
                int taken = p.rig.x.about(e, 3);
                p.sendBytes(p.sealed(ignored(most), 4));
                Check.due(most + ", MACS " + mac, p.state(), "1/0");
                Check.due("it is taken", p.rig.x.about(e, 3), taken + 1);
                p.sendBytes(p.sealed(ignored(most), 4));
                Check.due("and again", p.state(), "1/0");
                p.sendBytes(p.sealed(ignored(most + 16), 4));
                Check.due(most + 16 + ", MACS " + mac, p.state(), "2/2");
            }
        }
    }

    /** With its 4 bytes (ETM: without) a multiple of b. */
    private static void multiplesOfTheBlock() {
        for (int length = 12; length <= 60; length++) {
            byte[] b = new Msg().u32(length).u32(0).bytes();
            Check.due("length " + length, Plain.behindLine(b).state(1), (length + 4) % 8 == 0 ? "1/0" : "2/2");
            Check.due("length " + length + ", MAC", told(0, MAC, length), (length + 4) % 16 == 0 ? "1/0" : "2/2");
            Check.due("length " + length + ", ETM", told(1, ETM, length), length % 16 == 0 ? "1/0" : "2/2");
        }
    }

    /** p below 4, or above length - 2: DISCONNECT 2. */
    private static void paddings() {
        for (int mac = 0; mac <= ETM; mac++) {
            int length = mac == ETM ? 256 + 16 : 256 + 12;
            for (int p : new int[] {0, 3, 4, 255}) {
                Check.due("p " + p + ", MACS " + mac, padded(mac, length, p), p < 4 ? "2/2" : "1/0");
            }
            length = mac == ETM ? 32 : 28;
            for (int p : new int[] {length - 3, length - 2, length - 1, length, 255}) {
                Check.due("p " + p + " of " + length, padded(mac, length, p), p > length - 2 ? "2/2" : "1/0");
            }
        }
    }

    /** The server behind a packet of this length that tells p, all behind it unnamed numbers. */
    private static String padded(int mac, int length, int p) {
        byte[] rest = new byte[length - 1];
        Arrays.fill(rest, (byte) 77);
        byte[] plain = new Msg().u32(length).u8(p).raw(rest).bytes();
        if (mac == 0) {
            return Plain.behindLine(plain).state(1);
        }
        Peer peer = Peer.with(0, mac);
        return peer.sendBytes(peer.sealedPlain(plain)).state();
    }

    /** p is the least, 4 or more: a reply of each size says so (Peer looks at each packet). */
    private static void leastPadding() {
        for (int mac = MAC; mac <= ETM; mac++) {
            Rig r = Rig.ready();
            r.x.set(1, 1, mac);
            Peer p = new Peer(r, 0);
            p.mac = mac;
            p.begins().exchangesAsClient();
            p.send(Msg.of(5).str("ssh-userauth"));
            p.next();
            p.send(Msg.of(50).str("al").str("ssh-connection").str("password").u8(0).str("pw"));
            p.next();
            p.send(Msg.of(90).str("session").u32(5).u32(100000).u32(1000));
            p.next();
            p.send(Msg.of(98).u32(0).str("exec").u8(0).str("cat"));
            for (int n = 1; n <= 33; n++) {
                int before = r.x.about(0, 5);
                p.send(Msg.of(94).u32(0).str(new byte[n]));
                int counted = (mac == MAC ? 5 : 1) + 9 + n;
                int all = (counted + 4 + 15) / 16 * 16 + (mac == MAC ? 0 : 4) + 32;
                Check.due("94 of " + n + ", MACS " + mac, r.x.about(0, 5) - before, all);
                Check.due("94", p.next(), Msg.of(94).u32(5).str(new byte[n]).bytes());
            }
        }
    }

    /** A packet is taken with the last byte of its MAC, and not before. */
    private static void theLastByteOfAPacket() {
        Rig r = Plain.behindLine(Arrays.copyOf(Plain.packet(10, new byte[] {77}), 15));
        Check.due("without keys", r.x.about(1, 3) + r.x.about(1, 2), 1);
        r.x.move(1, 1);
        Check.due("then it is", r.x.about(1, 3) + r.x.about(1, 2), 3);
        for (int plays = 0; plays <= 1; plays++) {
            for (int mac = MAC; mac <= ETM; mac++) {
                Peer p = Peer.with(plays, mac);
                int taken = p.rig.x.about(1 - plays, 3);
                byte[] b = p.sealed(new byte[] {77});
                for (int i = 0; i < b.length; i++) {
                    Check.due("not before byte " + i, p.rig.x.about(1 - plays, 3), taken);
                    p.sendBytes(new byte[] {b[i]});
                }
                Check.due("then it is, MACS " + mac, p.rig.x.about(1 - plays, 3), taken + 1);
                Check.due("and is answered", p.rig.x.about(1 - plays, 0), 1);
            }
        }
    }

    /** Each bit but those of the length counts, those of the padding and of the MAC, too: DISCONNECT 5. */
    private static void eachByteVouchedFor() {
        for (int plays = 0; plays <= 1; plays++) {
            for (int mac = MAC; mac <= ETM; mac++) {
                int size = Peer.with(plays, mac).sealed(new byte[] {77}).length;
                for (int at = 4; at < size; at++) {
                    Peer p = Peer.with(plays, mac);
                    byte[] b = p.sealed(new byte[] {77});
                    b[at] ^= (byte) (1 << at % 8);
                    Check.due("byte " + at + ", MACS " + mac, p.sendBytes(b).state(), "2/5");
                }
                Peer p = Peer.with(plays, mac);
                p.packetsOut++;
                Check.due("another number, MACS " + mac, p.sendBytes(p.sealed(new byte[] {77})).state(), "2/5");
            }
        }
    }

    /** A MESSAGE 1 that comes: CLOSED, with its r told, whatever it is. */
    private static void reasonsThatAreTold() {
        for (int e = 0; e <= 1; e++) {
            for (long reason : new long[] {0, 1, 11, 0x7fffffffL, 0x80000000L, 0xffffffffL}) {
                Rig r = Plain.sent(e, Msg.of(1).u32(reason).str("any text").str("en"));
                Check.due("reason " + reason, r.state(e), "3/" + (int) reason);
                Check.due("nothing is sent", r.x.about(e, 2), 1);
            }
        }
    }

    /** 2, 3 and 4 are passed over before an exchange, in each part of it and behind it. */
    private static void passedOverAtAnyTime() {
        Peer p = new Peer(Rig.ready(), 0);
        p.begins();
        int taken = p.rig.x.about(1, 3);
        passedOver(p);
        p.send(Msg.of(30).str(Crypto.x25519Public(p.secret)));
        passedOver(p);
        Check.due("ahead of 21", p.rig.x.about(1, 3), taken + 7);
        Peer q = new Peer(Rig.ready(), 1).begins();
        passedOver(q);
        q.exchangesAsServer();
        passedOver(q);
        passedOver(Peer.provenServer(Rig.ready()));
        passedOver(Peer.provenClient(Rig.ready()));
        Check.due("before 20", Plain.answered(Msg.of(2).str("x"), Msg.of(3).u32(9), Msg.of(4).u8(1).str("").str("")), "1/0/3");
    }

    private static void passedOver(Peer p) {
        int sent = p.rig.x.about(p.other(), 2);
        p.send(Msg.of(2).str("any"));
        p.send(Msg.of(3).u32(0xffffffffL));
        p.send(Msg.of(4).u8(2).str("any").str("en"));
        Check.due("2, 3, 4", p.state(), "1/0");
        Check.due("nothing is sent about them", p.rig.x.about(p.other(), 2), sent);
    }

    /** Between the other's 20 and its 21 all but 1 .. 4 and what is due, named or not: DISCONNECT 2. */
    private static void unnamedInAnExchange() {
        for (int number = 0; number < 256; number++) {
            if (number >= 1 && number <= 4) {
                continue;
            }
            if (number != 30) {
                Peer p = new Peer(Rig.ready(), 0).begins();
                Check.due(number + " where 30 is due", p.send(Msg.of(number)).state(), "2/2");
            }
            if (number != 31) {
                Peer p = new Peer(Rig.ready(), 1).begins();
                Check.due(number + " where 31 is due", p.send(Msg.of(number)).state(), "2/2");
            }
            if (number != 21) {
                Peer p = new Peer(Rig.ready(), 0).begins();
                p.send(Msg.of(30).str(Crypto.x25519Public(p.secret)));
                Check.due(number + " where 21 is due", p.send(Msg.of(number)).state(), "2/2");
            }
        }
    }

    private static Object field(Object o, String name) throws ReflectiveOperationException {
        for (Class<?> c = o.getClass(); c != null; c = c.getSuperclass()) {
            for (Field f : c.getDeclaredFields()) {
                if (f.getName().equals(name)) {
                    f.setAccessible(true);
                    return f.get(o);
                }
            }
        }
        throw new NoSuchFieldException(name);
    }

    private static void setNumber(Object end, String flow, int number) throws ReflectiveOperationException {
        Object f = field(end, flow);
        Field packets = f.getClass().getDeclaredField("packets");
        packets.setAccessible(true);
        packets.setInt(f, number);
    }

    /** Sequence numbers have 4 bytes and go round. No calls reach that, so the class's own are set ahead. */
    private static void numbersGoRound() throws ReflectiveOperationException {
        for (int plays = 0; plays <= 1; plays++) {
            for (int mac = MAC; mac <= ETM; mac++) {
                Peer p = Peer.with(plays, mac);
                if (plays == 1) {
                    p.next();
                }
                Object end = field(p.rig.x, plays == 0 ? "server" : "client");
                setNumber(end, "inward", -2);
                setNumber(end, "outward", -2);
                p.packetsIn = -2;
                p.packetsOut = -2;
                for (int i = -2; i < 3; i++) {
                    p.send(Msg.of(77));
                    Check.due("3 with number " + i, p.next(), Msg.of(3).u32(i & 0xffffffffL).bytes());
                }
                Check.due("open", p.state(), "1/0");
                Check.due("and round", p.rig.x.about(1 - plays, 3), 3);
            }
        }
    }
}
