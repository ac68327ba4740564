import java.util.NoSuchElementException;

/** COMMANDS, the STORE and FAR: promises 8, 9, 15 to 18, 21 (12) and 23, at their edges. */
public final class EdgesOfCommandsTest {
    private static final Class<NoSuchElementException> NO_SUCH = NoSuchElementException.class;
    private static final Class<IllegalStateException> STATE = IllegalStateException.class;
    private static final String USAGE = "2||usage\n";
    private static final String NO = "1||no\n";
    private static final String UNKNOWN = "127||unknown\n";
    private static final String FINE = "0||";

    public static void main(String[] args) {
        blanksBetweenWords();
        numbersOfWords();
        anotherWordOrNone();
        digitsOfExit();
        exitModulo256();
        namesThatAreNotThere();
        namesOf64Bytes();
        sixtyFourNames();
        allBytesOfTheStore();
        inPlaceOfWhatWasThere();
        fullLeavesTheStore();
        fullIsToldOnce();
        sizesInDecimals();
        sumsOfAllSizes();
        namesInOrder();
        namesOfAllBytes();
        inputThatIsNotTaken();
        inputThatWasThere();
        catWithoutAnEnd();
        putWithoutAnEnd();
        closedAheadOfTheEnd();
        endBeforeTheCommand();
        secondCommand();
        execWhereNoSessionIs();
        orderOfTheLast();
        nothingToWrite();
        portThatIsClosedMeanwhile();
        bothEndsOfFar();
        unreadAtFar();
        startLeavesTheStore();
        Check.close();
    }

    private static void blanksBetweenWords() {
        Rig r = Rig.proven();
        Check.due("one each", r.run("echo a b", ""), "0|a b\n|");
        Check.due("many", r.run("   echo   a    b  ", ""), "0|a b\n|");
        Check.due("no word behind", r.run("echo", ""), "0|\n|");
        Check.due("blanks behind", r.run("echo    ", ""), "0|\n|");
        Check.due("only 32 is one", r.run("echo\ta", "") + r.run("echo a\tb\u00a0c\nd", ""), UNKNOWN + "0|a\tb\u00a0c\nd\n|");
        r.run("put f", "12");
        String[][] all = {{"cat", "0|in|"}, {"ls", "0|f\n|"}, {"get f", "0|12|"}, {"size f", "0|2\n|"}, {"exit 7", "7||"},
            {"put f", FINE}, {"rm f", FINE}, {"get f f", USAGE}, {"get", USAGE}, {"nope", UNKNOWN}};
        for (String[] a : all) {
            for (String form : new String[] {"%s", " %s", "%s ", " %s ", "   %s", "%s   "}) {
                r.run("put f", "12");
                String command = String.format(form, a[0].replace(" ", form.length() > 4 ? "   " : " "));
                Check.due("\"" + command + "\"", r.run(command, "in"), a[1]);
            }
        }
        Check.due("a command of 1,000 bytes", r.run("echo " + "x".repeat(995), ""), "0|" + "x".repeat(995) + "\n|");
    }

    /** Another number of words than these: usage; echo has any; cat and ls one; the rest two. */
    private static void numbersOfWords() {
        Rig r = Rig.proven();
        r.run("put f", "x");
        String[] one = {"cat", "ls"};
        String[] two = {"put", "get", "rm", "sum", "size", "exit"};
        for (String s : one) {
            Check.due(s + " of 2 words", r.run(s + " f", "in"), USAGE);
            Check.due(s + " of 3 words", r.run(s + " f f", "in"), USAGE);
        }
        for (String s : two) {
            Check.due(s + " of 1 word", r.run(s, "in"), USAGE);
            Check.due(s + " of 1 word and blanks", r.run(" " + s + "  ", "in"), USAGE);
            Check.due(s + " of 3 words", r.run(s + " f 1", "in"), USAGE);
            Check.due(s + " of 4 words", r.run(s + " 1 2 3", "in"), USAGE);
        }
        for (int n = 0; n < 5; n++) {
            Check.due("echo of " + n, r.run("echo" + " w".repeat(n), ""), "0|" + " w".repeat(n).trim() + "\n|");
        }
        Check.due("the number of words comes first", r.run("get no no", "") + r.run("put " + "n".repeat(65) + " f", ""), USAGE + USAGE);
        Check.due("nothing is done", r.run("ls", "") + r.run("get f", ""), "0|f\n|0|x|");
    }

    private static void anotherWordOrNone() {
        Rig r = Rig.proven();
        for (String s : new String[] {"", " ", "     ", "ech", "echo1", "ECHO a", "catcat", "l", "lss", "exit1", "f", "\u0000", "get\n f"}) {
            Check.due("\"" + s + "\"", r.run(s, "in"), UNKNOWN);
        }
    }

    /** N: 1 to 9 digits. */
    private static void digitsOfExit() {
        Rig r = Rig.proven();
        for (int n = 1; n <= 9; n++) {
            Check.due(n + " digits", r.run("exit " + "0".repeat(n - 1) + "9", ""), "9||");
        }
        for (String s : new String[] {"0000000009", "0000000000000000000000009", "/", ":", "1a", "a1", "-1", "+1", "1.0", "0x1", "\u00b2"}) {
            Check.due("exit " + s, r.run("exit " + s, ""), USAGE);
        }
    }

    private static void exitModulo256() {
        Rig r = Rig.proven();
        for (int n : new int[] {0, 1, 127, 128, 255, 256, 257, 511, 512, 65535, 65536, 999999999, 536870912}) {
            Check.due("exit " + n, r.run("exit " + n, ""), n % 256 + "||");
        }
    }

    private static void namesThatAreNotThere() {
        Rig r = Rig.proven();
        r.run("put ab", "x");
        for (String s : new String[] {"get", "rm", "sum", "size"}) {
            for (String name : new String[] {"a", "abc", "AB", "ab\n", "n".repeat(64), "n".repeat(65), "n".repeat(900)}) {
                Check.due(s + " " + name, r.run(s + " " + name, "in"), NO);
            }
        }
        Check.due("the one that is", r.run("rm ab", ""), FINE);
        Check.due("is not any more", r.run("rm ab", ""), NO);
    }

    private static void namesOf64Bytes() {
        Rig r = Rig.proven();
        String longest = "n".repeat(64);
        Check.due("1 byte", r.run("put n", "1"), FINE);
        Check.due("63 bytes", r.run("put " + longest.substring(1), "63"), FINE);
        Check.due("64 bytes", r.run("put " + longest, "64"), FINE);
        Check.due("65 bytes", r.run("put " + longest + "n", "65"), NO);
        Check.due("much more", r.run("put " + "n".repeat(990), "x"), NO);
        Check.due("three", r.x.about(0, 12) + "/" + r.x.about(1, 12) + "/" + r.x.count(4), "3/3/5");
        Check.due("each its own", r.run("get n", "") + r.run("get " + longest, ""), "0|1|0|64|");
    }

    /** Runs a command with this input by a client of the test: status and ERROR text. */
    private static String run(Peer p, String command, byte[] input) {
        p.send(Msg.of(90).str("session").u32(9).u32(100000).u32(30000));
        Check.due("91", p.next()[0], 91);
        p.send(Msg.of(98).u32(0).str("exec").u8(0).str(command));
        for (int at = 0; at < input.length; at += 1024) {
            p.send(Msg.of(94).u32(0).str(new byte[Math.min(1024, input.length - at)]));
        }
        p.send(Msg.of(96).u32(0));
        String told = "";
        for (byte[] b = p.next(); b != null && b[0] != 97; b = p.next()) {
            if (b[0] == 95) {
                told = new String(b, 13, b.length - 13, java.nio.charset.StandardCharsets.ISO_8859_1);
            } else if (b[0] == 98) {
                told = b[b.length - 1] + " " + told;
            }
        }
        p.send(Msg.of(97).u32(0));
        return told;
    }

    private static void sixtyFourNames() {
        Peer p = Peer.provenClient(Rig.ready());
        for (int i = 0; i < 64; i++) {
            Check.due("name " + i, run(p, "put n" + i, new byte[0]), "0 ");
            Check.due("names", p.rig.x.about(1, 12), i + 1);
        }
        Check.due("a sixty-fifth", run(p, "put more", new byte[0]), "1 full\n");
        Check.due("in place of one", run(p, "put n63", new byte[5]), "0 ");
        Check.due("64 and 5 bytes", p.rig.x.about(1, 12) + "/" + p.rig.x.count(4), "64/5");
        Check.due("one goes", run(p, "rm n0", new byte[0]), "0 ");
        Check.due("another comes", run(p, "put more", new byte[0]), "0 ");
        Check.due("and no more", run(p, "put n0", new byte[0]), "1 full\n");
    }

    /** 16,384 bytes in all. */
    private static void allBytesOfTheStore() {
        for (int over = 0; over <= 1; over++) {
            Peer p = Peer.provenClient(Rig.ready());
            Check.due("at once, over " + over, run(p, "put f", new byte[16384 + over]), over == 0 ? "0 " : "1 full\n");
            Check.due("bytes", p.rig.x.count(4) + "/" + p.rig.x.about(0, 12), over == 0 ? "16384/1" : "0/0");
            Peer q = Peer.provenClient(Rig.ready());
            run(q, "put f", new byte[16000]);
            Check.due("in two, over " + over, run(q, "put g", new byte[384 + over]), over == 0 ? "0 " : "1 full\n");
            Check.due("bytes", q.rig.x.count(4), over == 0 ? 16384 : 16000);
            Check.due("nothing always fits", run(q, "put h", new byte[0]), "0 ");
        }
    }

    /** What was there in its place does not count. */
    private static void inPlaceOfWhatWasThere() {
        Peer p = Peer.provenClient(Rig.ready());
        run(p, "put f", new byte[10000]);
        run(p, "put g", new byte[6384]);
        Check.due("all of it in place", run(p, "put f", new byte[10000]), "0 ");
        Check.due("one more", run(p, "put f", new byte[10001]), "1 full\n");
        Check.due("as before", p.rig.x.count(4), 16384);
        Check.due("less", run(p, "put f", new byte[1]), "0 ");
        Check.due("bytes", p.rig.x.count(4), 6385);
        Check.due("up to the most", run(p, "put f", new byte[10000]), "0 ");
        Check.due("rm makes room", run(p, "rm g", new byte[0]), "0 ");
        Check.due("for as much", run(p, "put h", new byte[6384]), "0 ");
        Check.due("bytes", p.rig.x.count(4) + "/" + p.rig.x.about(0, 12), "16384/2");
    }

    /** put without room: the STORE is as before, and what it had under the name. */
    private static void fullLeavesTheStore() {
        Rig r = Rig.ready();
        Peer p = Peer.provenClient(r);
        run(p, "put f", new byte[10]);
        Check.due("too much in place", run(p, "put f", new byte[16385]), "1 full\n");
        Check.due("bytes", r.x.count(4) + "/" + r.x.about(0, 12), "10/1");
        Check.due("far too much", run(p, "put g", new byte[60000]), "1 full\n");
        Check.due("still", r.x.count(4) + "/" + r.x.about(0, 12), "10/1");
        r.x.start();
        r.settle();
        Check.due("what it had", r.run("size f", ""), "0|10\n|");
        Check.due("no name more", r.run("ls", ""), "0|f\n|");
    }

    /** It is told once, however long the client lets it wait. */
    private static void fullIsToldOnce() {
        Peer p = Peer.provenClient(Rig.ready());
        run(p, "put f", new byte[16384]);
        p.send(Msg.of(90).str("session").u32(9).u32(0).u32(100));
        p.next();
        p.send(Msg.of(98).u32(0).str("exec").u8(0).str("put g"));
        p.send(Msg.of(94).u32(0).str("x"));
        p.send(Msg.of(96).u32(0));
        p.send(Msg.of(2).str("")).send(Msg.of(93).u32(0).u32(2)).send(Msg.of(96).u32(0));
        Check.due("as much as the window allows", p.next(), Msg.of(95).u32(9).u32(1).str("fu").bytes());
        p.saysNothing("the rest waits");
        p.send(Msg.of(93).u32(0).u32(100));
        Check.due("the rest", p.next(), Msg.of(95).u32(9).u32(1).str("ll\n").bytes());
        Check.due("96", p.next(), Msg.of(96).u32(9).bytes());
        Check.due("98", p.next(), Msg.of(98).u32(9).str("exit-status").u8(0).u32(1).bytes());
        Check.due("97", p.next(), Msg.of(97).u32(9).bytes());
        p.saysNothing("once");
    }

    private static void sizesInDecimals() {
        Peer p = Peer.provenClient(Rig.ready());
        for (int n : new int[] {0, 1, 9, 10, 99, 100, 999, 1000, 9999, 10000, 16384}) {
            Check.due("put of " + n, run(p, "put f", new byte[n]), "0 ");
            p.rig.x.start();
            p.rig.settle();
            Check.due("size of " + n, p.rig.run("size f", ""), "0|" + n + "\n|");
            p = Peer.provenClient(p.rig);
        }
    }

    private static void sumsOfAllSizes() {
        Rig r = Rig.proven();
        for (int n = 0; n <= 130; n++) {
            String s = "\u00e9\u0000x9".repeat(40).substring(0, n);
            r.run("put f", s);
            Check.due("sum of " + n, r.run("sum f", "dropped"), "0|" + Check.hex(Crypto.sha256(Rig.latin(s))) + "\n|");
        }
    }

    /** In order of bytes, a shorter one that is another's beginning first. */
    private static void namesInOrder() {
        Rig r = Rig.proven();
        Check.due("none", r.run("ls", ""), FINE);
        String[] names = {"m", "\u00ff\u00ff", "\u00ff", "m\u0000", "mm", "a", "\u0080", "\u007f", "Z", "0", "\u0000"};
        for (String s : names) {
            r.run("put " + s, "");
        }
        String[] sorted = names.clone();
        java.util.Arrays.sort(sorted);
        Check.due("ls", r.run("ls", ""), "0|" + String.join("\n", sorted) + "\n|");
        r.run("rm " + sorted[0], "");
        r.run("rm " + sorted[10], "");
        r.run("rm m", "");
        Check.due("without the first, the last and one between", r.run("ls", ""), "0|0\nZ\na\nm\u0000\nmm\n\u007f\n\u0080\n\u00ff\n|");
    }

    private static void namesOfAllBytes() {
        Rig r = Rig.proven();
        for (int b = 0; b < 256; b++) {
            if (b != ' ' && b % 5 == 0) {
                String name = "n" + (char) b;
                Check.due("put " + b, r.run("put " + name, "" + b), FINE);
                Check.due("get " + b, r.run("get " + name, ""), "0|" + b + "|");
            }
        }
        Check.due("names", r.x.about(1, 12), 52);
    }

    /** Input that a command does not take is read at once and dropped, window and all: all but cat and put. */
    private static void inputThatIsNotTaken() {
        String[] all = {"echo " + "x".repeat(50), "ls no", "cat no", "put", "put a b", "put " + "n".repeat(65), "get no", "rm no",
            "sum no", "size no", "exit x", "", "nope"};
        for (String s : all) {
            Rig r = Rig.ready();
            r.x.set(1, 2, 20);
            Peer p = Peer.provenClient(r);
            p.send(Msg.of(90).str("session").u32(9).u32(1).u32(100));
            p.next();
            p.send(Msg.of(98).u32(0).str("exec").u8(0).str(s));
            Check.due("a byte of what it writes, " + s, p.next()[0] >= 94 ? 1 : 0, 1);
            p.saysNothing("the window is used up");
            for (int i = 0; i < 3; i++) {
                p.send(Msg.of(94).u32(0).str(new byte[10]));
                p.saysNothing("half is left");
                p.send(Msg.of(94).u32(0).str("x"));
                Check.due("93 for all, " + s, p.next(), Msg.of(93).u32(9).u32(11).bytes());
            }
            p.send(Msg.of(96).u32(0));
            p.saysNothing("its end is nothing, too");
        }
    }

    /** What is there already is dropped before the command does anything; cat takes it. */
    private static void inputThatWasThere() {
        for (String s : new String[] {"echo hi", "cat", "put f"}) {
            Rig r = Rig.ready();
            r.x.set(1, 2, 20);
            Peer p = Peer.provenClient(r);
            p.send(Msg.of(90).str("session").u32(9).u32(100).u32(100));
            p.next();
            p.send(Msg.of(94).u32(0).str("0123456789a"));
            p.saysNothing("it is kept");
            p.send(Msg.of(98).u32(0).str("exec").u8(1).str(s));
            Check.due("99 first", p.next(), Msg.of(99).u32(9).bytes());
            if (s.equals("cat")) {
                Check.due("94 ahead of 93", p.next(), Msg.of(94).u32(9).str("0123456789a").bytes());
            }
            Check.due("93", p.next(), Msg.of(93).u32(9).u32(11).bytes());
            if (s.equals("echo hi")) {
                Check.due("94 behind 93", p.next(), Msg.of(94).u32(9).str("hi\n").bytes());
                p.next();
                p.next();
                p.next();
            }
            p.saysNothing("no more");
        }
    }

    private static void catWithoutAnEnd() {
        Rig r = Rig.proven();
        int c = r.x.open(0);
        r.settle();
        r.exec(c, "cat");
        for (String s : new String[] {"a", "bc", "\n", "\u0000\u00ff"}) {
            r.write(c, false, s);
            r.settle();
            Check.due("as it comes", r.text(c, 0), s);
        }
        Check.due("no end", r.x.channel(c, 0) + "/" + r.x.channel(c, 2) + "/" + r.x.channel(c, 8), "1/-1/0");
        r.x.finish(c, 0);
        r.settle();
        Check.due("then it ends", r.x.channel(c, 0) + "/" + r.x.channel(c, 2) + "/" + r.x.channel(c, 8), "3/0/1");
    }

    private static void putWithoutAnEnd() {
        Rig r = Rig.proven();
        int c = r.x.open(0);
        r.settle();
        r.exec(c, "put f");
        r.write(c, false, "abc");
        r.settle();
        Check.due("not kept yet", r.x.about(1, 12) + "/" + r.x.count(4), "0/0");
        r.write(c, false, "def");
        r.x.finish(c, 0);
        Check.due("not yet", r.x.count(4), 0);
        r.settle();
        Check.due("kept", r.x.count(4) + "/" + r.x.channel(c, 2), "6/0");
        int d = r.x.open(0);
        r.settle();
        r.exec(d, "put f");
        r.write(d, false, "x");
        r.settle();
        Check.due("what was there is there till then", r.run("get f", ""), "0|abcdef|");
        r.x.finish(d, 0);
        r.settle();
        Check.due("then it is another", r.run("get f", ""), "0|x|");
    }

    /** A channel that the client closes before 96: the command ends, nothing is kept. */
    private static void closedAheadOfTheEnd() {
        for (String s : new String[] {"put f", "cat"}) {
            Rig r = Rig.proven();
            int c = r.x.open(0);
            r.settle();
            r.exec(c, s);
            r.write(c, false, "abc");
            r.settle();
            r.x.finish(c, 1);
            r.settle();
            Check.due("gone, without a status", r.x.channel(c, 0) + "/" + r.x.channel(c, 2), "3/-1");
            Check.due("nothing is kept", r.x.about(1, 12), 0);
        }
        Rig r = Rig.proven();
        int c = r.x.open(0);
        r.settle();
        r.exec(c, "put f");
        r.write(c, false, "abc");
        r.x.finish(c, 0);
        r.x.finish(c, 1);
        r.settle();
        Check.due("96 went ahead of 97: it is kept", r.x.about(1, 12) + "/" + r.x.channel(c, 0), "1/3");
    }

    private static void endBeforeTheCommand() {
        for (String s : new String[] {"cat", "put f", "ls"}) {
            Rig r = Rig.proven();
            int c = r.x.open(0);
            r.settle();
            r.x.finish(c, 0);
            r.settle();
            Check.due("it is there", r.x.channel(c, 0), 1);
            r.exec(c, s);
            r.settle();
            Check.due("it ends at once", r.x.channel(c, 0) + "/" + r.x.channel(c, 2), "3/0");
            Check.due("kept", r.x.about(1, 12), s.equals("put f") ? 1 : 0);
        }
    }

    /** exec in a session that has none yet: 99, and once only. */
    private static void secondCommand() {
        Rig r = Rig.ready();
        Peer p = Peer.provenClient(r);
        p.send(Msg.of(90).str("session").u32(9).u32(100).u32(100));
        p.next();
        p.send(Msg.of(98).u32(0).str("shell").u8(1));
        Check.due("another request is none", p.next(), Msg.of(100).u32(9).bytes());
        p.send(Msg.of(98).u32(0).str("exec").u8(1).str("cat"));
        Check.due("99", p.next(), Msg.of(99).u32(9).bytes());
        p.send(Msg.of(98).u32(0).str("exec").u8(1).str("echo x"));
        Check.due("100", p.next(), Msg.of(100).u32(9).bytes());
        p.send(Msg.of(98).u32(0).str("exec").u8(0).str("echo x"));
        p.saysNothing("none is wanted");
        p.send(Msg.of(94).u32(0).str("still cat"));
        Check.due("the first goes on", p.next(), Msg.of(94).u32(9).str("still cat").bytes());
    }

    private static void execWhereNoSessionIs() {
        Rig r = Rig.proven();
        r.x.port(7, true);
        int c = r.tape("h").x.open(7);
        r.settle();
        r.exec(c, "echo x");
        r.settle();
        Check.due("100", r.x.channel(c, 9) + "/" + r.x.channel(c, 10) + "/" + r.x.channel(c, 0), "0/1/1");
        Check.due("nothing comes", r.x.channel(c, 3), 0);
    }

    /** 94 or 95, then 96, then 98 with status, then 97. */
    private static void orderOfTheLast() {
        String[][] all = {{"echo x", "94", "0"}, {"nope", "95", "127"}, {"exit 300", "", "44"}};
        for (String[] a : all) {
            Peer p = Peer.provenClient(Rig.ready());
            p.send(Msg.of(90).str("session").u32(9).u32(100).u32(100));
            p.next();
            p.send(Msg.of(98).u32(0).str("exec").u8(1).str(a[0]));
            Check.due("99", p.next()[0], 99);
            if (!a[1].isEmpty()) {
                Check.due("what it writes", p.next()[0], Integer.parseInt(a[1]));
            }
            Check.due("96", p.next(), Msg.of(96).u32(9).bytes());
            Check.due("98", p.next(), Msg.of(98).u32(9).str("exit-status").u8(0).u32(Integer.parseInt(a[2])).bytes());
            Check.due("97", p.next(), Msg.of(97).u32(9).bytes());
            p.saysNothing("that is all");
        }
    }

    /** What is empty is not sent, and needs no window. */
    private static void nothingToWrite() {
        Peer p = Peer.provenClient(Rig.ready());
        for (String s : new String[] {"ls", "exit 0", "put f", "get f", "rm f", "cat"}) {
            p.send(Msg.of(90).str("session").u32(9).u32(0).u32(0));
            p.next();
            p.send(Msg.of(98).u32(0).str("exec").u8(0).str(s));
            p.send(Msg.of(96).u32(0));
            Check.due("96 of " + s, p.next(), Msg.of(96).u32(9).bytes());
            Check.due("98", p.next()[0], 98);
            Check.due("97", p.next()[0], 97);
            p.send(Msg.of(97).u32(0));
            p.saysNothing("that is all");
        }
    }

    private static int opens(Rig r, int port) {
        int c = r.tape("h").x.open(port);
        r.settle();
        return c;
    }

    /** Promise 8: a port that is closed leaves the connection that is there. */
    private static void portThatIsClosedMeanwhile() {
        Rig r = Rig.proven();
        r.x.port(7, true);
        int asked = r.tape("h").x.open(7);
        r.x.port(7, false);
        r.settle();
        Check.due("open when 90 comes, that is what counts", r.x.channel(asked, 0) + "/" + r.x.channel(asked, 1), "2/2");
        r.x.port(7, true);
        int c = opens(r, 7);
        r.x.port(7, false);
        Check.due("it stays", r.x.count(3) + "/" + r.x.count(2), "1/0");
        r.write(c, false, "abc");
        r.settle();
        Check.due("and goes on", r.text(7, 2), "abc");
        r.write(7, true, "def");
        r.settle();
        Check.due("both ways", r.text(c, 0), "def");
        r.x.start();
        Check.due("start ends it", r.x.count(3), 0);
        Check.throwing("none is there", NO_SUCH, () -> r.x.read(7, 2, 1));
        r.x.port(7, true);
        Check.due("the port stays open", r.x.count(2), 1);
        r.x.start();
        Check.due("over start, too", r.x.count(2), 1);
    }

    /** A channel that has had and sent 96 is closed by the server; one 96 is not enough. */
    private static void bothEndsOfFar() {
        for (int first = 0; first <= 1; first++) {
            Rig r = Rig.proven();
            r.x.port(7, true);
            int c = opens(r, 7);
            if (first == 0) {
                r.x.finish(c, 0);
            } else {
                r.x.finish(7, 2);
            }
            r.settle();
            Check.due("one 96", r.x.channel(c, 0) + "/" + r.x.channel(c, 8) + "/" + r.x.count(3), "1/" + first + "/1");
            if (first == 0) {
                r.x.finish(7, 2);
            } else {
                Check.throwing("FAR has ended", STATE, () -> r.x.finish(7, 2));
                r.x.finish(c, 0);
            }
            r.settle();
            Check.due("both", r.x.channel(c, 0) + "/" + r.x.channel(c, 8) + "/" + r.x.count(3), "3/1/0");
            Check.throwing("no connection", NO_SUCH, () -> r.x.finish(7, 2));
        }
    }

    /** What was not read is there till the client's 97 comes, and then gone with the connection. */
    private static void unreadAtFar() {
        Rig r = Rig.proven();
        r.x.port(7, true);
        int c = opens(r, 7);
        r.write(c, false, "abcdef");
        r.x.finish(c, 0);
        r.x.finish(7, 2);
        r.x.move(1, 100000);
        Check.due("97 is sent, the channel is there", r.x.count(3), 1);
        Check.due("some of it", r.x.read(7, 2, 2), (2L << 56) + 'a' * 256 + 'b');
        Check.throwing("nothing is sent any more", STATE, () -> r.x.write(7, true));
        r.x.move(0, 100000);
        Check.due("till 97 comes", r.x.read(7, 2, 1), (1L << 56) + 'c');
        r.x.move(1, 100000);
        Check.throwing("gone", NO_SUCH, () -> r.x.read(7, 2, 1));
        int d = opens(r, 7);
        Check.due("a new one", r.x.channel(d, 0) + "/" + r.x.read(7, 2, 7), "1/0");
    }

    /** Promise 9: STORE, ACCOUNTS, settings, keys and ports stay, channels and proofs do not. */
    private static void startLeavesTheStore() {
        Rig r = Rig.proven();
        r.run("put f", "abc");
        r.x.port(7, true);
        int c = opens(r, 7);
        int d = r.x.open(0);
        r.settle();
        r.exec(d, "put g");
        r.write(d, false, "not ended");
        r.settle();
        r.x.set(0, 2, 77);
        r.x.start();
        Check.due("names and bytes", r.x.about(0, 12) + "/" + r.x.count(4), "1/3");
        Check.due("ACCOUNTS and ports", r.x.count(1) + "/" + r.x.count(2) + "/" + r.x.count(3), "1/1/0");
        Check.due("a setting", r.x.set(0, 2, 4096), 77);
        Check.due("no proof", r.x.about(0, 8) + r.x.about(1, 8), 0);
        Check.throwing("no channel", NO_SUCH, () -> r.x.channel(c, 0));
        Check.throwing("no connection", NO_SUCH, () -> r.x.write(7, true));
        r.settle();
        Check.due("the STORE", r.run("ls", "") + r.run("get f", ""), "0|f\n|0|abc|");
    }
}
