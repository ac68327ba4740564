/** COMMANDS and the STORE, promises 15, 17, 21 (12) and 23 (4). */
public final class CommandsTest {
    public static void main(String[] args) {
        echoes();
        catsAndPuts();
        namesOfStore();
        usage();
        exits();
        order();
        sums();
        limitsOfStore();
        closedBeforeItsEnd();
        longOutput();
        Check.close();
    }

    private static void echoes() {
        Rig r = Rig.proven();
        Check.due("echo", r.run("echo", ""), "0|\n|");
        Check.due("echo words", r.run("  echo  one   two\t ", "dropped"), "0|one two\t\n|");
        Check.due("any bytes", r.run("echo \u00ff \u0000\n", ""), "0|\u00ff \u0000\n\n|");
        Check.due("no word", r.run("", ""), "127||unknown\n");
        Check.due("blanks", r.run("   ", ""), "127||unknown\n");
        Check.due("another word", r.run("Echo x", ""), "127||unknown\n");
        Check.due("a longer word", r.run("echoes x", ""), "127||unknown\n");
    }

    private static void catsAndPuts() {
        Rig r = Rig.proven();
        Check.due("cat", r.run("cat", "what comes"), "0|what comes|");
        Check.due("cat of nothing", r.run(" cat ", ""), "0||");
        Check.due("put", r.run("put f", "one"), "0||");
        Check.due("get", r.run("get f", "dropped"), "0|one|");
        Check.due("put in place", r.run("put f", "another"), "0||");
        Check.due("get", r.run("get f", ""), "0|another|");
        Check.due("names, bytes", r.x.about(0, 12) + "/" + r.x.about(1, 12) + "/" + r.x.count(4), "1/1/7");
        Check.due("put of nothing", r.run("put e", ""), "0||");
        Check.due("get of nothing", r.run("get e", ""), "0||");
        Check.due("names, bytes", r.x.about(1, 12) + "/" + r.x.count(4), "2/7");
        int c = r.x.open(0);
        r.settle();
        r.write(c, false, "ahead of it ");
        r.settle();
        r.exec(c, "cat");
        r.settle();
        Check.due("what was there already", r.text(c, 0), "ahead of it ");
        r.write(c, false, "and behind");
        r.settle();
        Check.due("as it comes", r.text(c, 0), "and behind");
        Check.due("till no more comes", r.x.channel(c, 2), -1);
        r.x.finish(c, 0);
        r.settle();
        Check.due("then it ends", r.x.channel(c, 2) + "/" + r.x.channel(c, 0), "0/3");
        int d = r.x.open(0);
        r.settle();
        r.write(d, false, "all of it");
        r.x.finish(d, 0);
        r.settle();
        r.exec(d, "put g");
        r.settle();
        Check.due("no more came already", r.x.channel(d, 2), 0);
        Check.due("kept", r.run("get g", ""), "0|all of it|");
    }

    private static void namesOfStore() {
        Rig r = Rig.proven();
        Check.due("no name", r.run("get f", ""), "1||no\n");
        r.run("put f", "12345");
        Check.due("size", r.run("size f", ""), "0|5\n|");
        r.run("put g", "0123456789");
        Check.due("size of 10", r.run("size g", ""), "0|10\n|");
        Check.due("rm", r.run("rm f", ""), "0||");
        Check.due("it is not there", r.run("size f", ""), "1||no\n");
        Check.due("rm again", r.run("rm f", ""), "1||no\n");
        Check.due("sum of none", r.run("sum f", ""), "1||no\n");
        Check.due("the other is", r.run("ls", ""), "0|g\n|");
        Check.due("bytes", r.x.count(4), 10);
        Check.due("rm the last", r.run("rm g", ""), "0||");
        Check.due("ls of nothing", r.run("ls", ""), "0||");
        Check.due("size 0", r.run("put z", "") + r.run("size z", ""), "0||0|0\n|");
        String longest = "n".repeat(64);
        Check.due("64 bytes", r.run("put " + longest, "x"), "0||");
        Check.due("65 bytes", r.run("put " + longest + "n", "x"), "1||no\n");
        Check.due("it is not the one of 64", r.run("get " + longest + "n", ""), "1||no\n");
        Check.due("get", r.run("get " + longest, ""), "0|x|");
    }

    private static void usage() {
        Rig r = Rig.proven();
        r.run("put f", "x");
        String[] wrong = {"cat f", "ls f", "put", "put f g", "get", "get f g", "rm", "rm f f", "sum", "sum f f", "size",
            "size f f", "exit", "exit 1 2", "put " + "n".repeat(65) + " x"};
        for (String s : wrong) {
            Check.due(s, r.run(s, "input"), "2||usage\n");
        }
        Check.due("nothing is done", r.run("ls", ""), "0|f\n|");
    }

    private static void exits() {
        Rig r = Rig.proven();
        String[][] all = {{"0", "0"}, {"7", "7"}, {"255", "255"}, {"256", "0"}, {"999999999", "255"}, {"000000001", "1"}};
        for (String[] a : all) {
            Check.due("exit " + a[0], r.run("exit " + a[0], ""), a[1] + "||");
        }
        for (String s : new String[] {"1234567890", "x", "-1", "1x", "+1", "0000000001", "/", ":"}) {
            Check.due("exit " + s, r.run("exit " + s, ""), "2||usage\n");
        }
    }

    private static void order() {
        Rig r = Rig.proven();
        for (String s : new String[] {"b", "\u00ff", "ab", "a", "B", "abc", "a\n", "\u0080"}) {
            Check.due("put " + s, r.run("put " + s, ""), "0||");
        }
        Check.due("ls", r.run("ls", ""), "0|B\na\na\n\nab\nabc\nb\n\u0080\n\u00ff\n|");
        r.run("rm ab", "");
        r.run("put aa", "x");
        Check.due("ls then", r.run("ls", ""), "0|B\na\na\n\naa\nabc\nb\n\u0080\n\u00ff\n|");
        Check.due("each has its own", r.run("get aa", "") + r.run("get abc", ""), "0|x|0||");
    }

    private static void sums() {
        Rig r = Rig.proven();
        for (int n : new int[] {0, 1, 55, 56, 63, 64, 65, 119, 120, 300}) {
            String s = "\u00c3x9".repeat(n).substring(0, n);
            r.run("put f", s);
            Check.due("sum of " + n, r.run("sum f", ""), "0|" + Check.hex(Crypto.sha256(Rig.latin(s))) + "\n|");
        }
    }

    private static void limitsOfStore() {
        Rig r = Rig.ready();
        Peer p = Peer.provenClient(r);
        for (int i = 0; i < 64; i++) {
            Check.due("name " + i, put(p, "n" + i, new byte[0]), 0);
        }
        Check.due("a sixty-fifth", put(p, "more", new byte[0]), 1);
        Check.due("names", r.x.about(1, 12), 64);
        Check.due("in place", put(p, "n0", new byte[16384]), 0);
        Check.due("bytes", r.x.count(4), 16384);
        Check.due("one more", put(p, "n1", new byte[1]), 1);
        Check.due("in place again", put(p, "n0", new byte[16383]), 0);
        Check.due("one more then", put(p, "n1", new byte[1]), 0);
        Check.due("too much in place", put(p, "n0", new byte[16384]), 1);
        Check.due("as before", r.x.count(4), 16384);
        Check.due("much too much", put(p, "n5", new byte[40000]), 1);
        Check.due("names then", r.x.about(1, 12), 64);
        p.send(Msg.of(90).str("session").u32(9).u32(100).u32(100));
        p.next();
        p.send(Msg.of(98).u32(0).str("exec").u8(0).str("rm n0"));
        Check.due("one of 64 goes", r.x.about(1, 12) + "/" + r.x.count(4), "63/1");
        Check.due("96", p.next(), Msg.of(96).u32(9).bytes());
        Check.due("98", p.next(), Msg.of(98).u32(9).str("exit-status").u8(0).u32(0).bytes());
        Check.due("97", p.next(), Msg.of(97).u32(9).bytes());
        p.send(Msg.of(97).u32(0));
        Check.due("and another comes", put(p, "more", new byte[16383]), 0);
        Check.due("64 and all bytes", r.x.about(1, 12) + "/" + r.x.count(4), "64/16384");
    }

    /** The status of put; its ERROR text is looked at. */
    private static int put(Peer p, String name, byte[] content) {
        p.send(Msg.of(90).str("session").u32(9).u32(100).u32(100));
        p.next();
        p.send(Msg.of(98).u32(0).str("exec").u8(0).str("put " + name));
        for (int i = 0; i < content.length; i += 1000) {
            p.send(Msg.of(94).u32(0).str(new byte[Math.min(1000, content.length - i)]));
        }
        p.send(Msg.of(96).u32(0));
        byte[] b = p.next();
        while (b != null && b[0] == 93) {
            b = p.next();
        }
        int status = 0;
        if (b != null && b[0] == 95) {
            Check.due("ERROR", b, Msg.of(95).u32(9).u32(1).str("full\n").bytes());
            status = 1;
            b = p.next();
        }
        Check.due("96", b, Msg.of(96).u32(9).bytes());
        Check.due("98", p.next(), Msg.of(98).u32(9).str("exit-status").u8(0).u32(status).bytes());
        Check.due("97", p.next(), Msg.of(97).u32(9).bytes());
        p.send(Msg.of(97).u32(0));
        return status;
    }

    private static void closedBeforeItsEnd() {
        Rig r = Rig.proven();
        int c = r.x.open(0);
        r.settle();
        r.exec(c, "put f");
        r.write(c, false, "some");
        r.settle();
        r.x.finish(c, 1);
        r.settle();
        Check.due("gone", r.x.channel(c, 0) + "/" + r.x.channel(c, 2) + "/" + r.x.channel(c, 8), "3/-1/1");
        Check.due("nothing is kept", r.x.about(1, 12), 0);
        int d = r.x.open(0);
        r.settle();
        r.exec(d, "cat");
        r.write(d, false, "some");
        r.x.finish(d, 1);
        r.settle();
        Check.due("97 behind the data", r.x.channel(d, 0) + "/" + r.text(d, 0), "3/some");
    }

    /** Far more than a window, read bit by bit, in small pieces. */
    private static void longOutput() {
        Rig r = Rig.ready();
        r.x.set(0, 2, 100);
        r.x.set(0, 3, 16);
        r.x.start();
        r.settle();
        String s = "0123456789".repeat(100);
        Check.due("put", r.run("put f", s), "0||");
        Check.due("get", r.run("get f", ""), "0|" + s + "|");
        Check.due("cat", r.run("cat", s), "0|" + s + "|");
        int c = r.x.open(0);
        r.settle();
        r.exec(c, "get f");
        r.settle();
        Check.due("no more than the window", r.x.channel(c, 3) + "/" + r.x.channel(c, 7), "100/0");
        Check.due("it does not end", r.x.channel(c, 2) + "/" + r.x.channel(c, 8), "-1/0");
        r.x.read(c, 0, 7);
        r.settle();
        Check.due("93 for the whole window", r.x.channel(c, 3), 193);
        r.run("rm f", "");
        for (int i = 0; i < 40; i++) {
            r.settle();
            r.read(c, 0);
        }
        Check.due("what was written comes all the same", r.x.channel(c, 2) + "/" + r.x.channel(c, 0), "0/3");
    }
}
