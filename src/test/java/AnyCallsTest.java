import java.util.Random;

/** Whatever is called in whatever state: nothing is thrown but what the document names. */
public final class AnyCallsTest {
    private static final int[] EDGES = {Integer.MIN_VALUE, -2, -1, 0, 1, 2, 3, 7, 16, 17, 64, 65535, 65536, Integer.MAX_VALUE};
    private static final String[] COMMANDS = {
        "echo a b", "cat", "put f", "get f", "rm f", "ls", "sum f", "size f", "exit 7", "", " ", "cat x", "put", "exit x",
    };

    public static void main(String[] args) {
        for (int run = 0; run < 300; run++) {
            Random random = new Random(run);
            Rig r = run % 3 == 0 ? new Rig() : Rig.ready();
            if (run % 3 == 2) {
                r.withKey();
                r.x.set(run & 1, 4, 256);
                r.x.set(run >> 1 & 1, 3, 16);
                r.x.set(run >> 2 & 1, 2, 1 + random.nextInt(300));
                r.x.start();
                r.settle();
            }
            for (int i = 0; i < 400; i++) {
                call(r, random, run % 3 == 2 && run % 2 == 0);
            }
            invariants(run, r);
        }
        messages();
        Check.close();
    }

    private static int number(Random random) {
        return random.nextInt(4) == 0 ? EDGES[random.nextInt(EDGES.length)] : random.nextInt(6);
    }

    /** One call, with whatever it throws of what it may. */
    private static void call(Rig r, Random random, boolean honest) {
        int kind = random.nextInt(honest ? 20 : 26);
        int a = number(random);
        int b = number(random);
        try {
            any(r, random, kind, a, b);
        } catch (java.util.NoSuchElementException | IllegalArgumentException | IllegalStateException e) {
            Check.holds("a written text", e.getMessage() != null && e.getStackTrace()[0].getClassName().equals("ShellPair"));
        } catch (IndexOutOfBoundsException e) {
            Check.holds("of flip and seen alone", e.getClass() == IndexOutOfBoundsException.class && kind >= 20);
        } catch (RuntimeException e) {
            e.printStackTrace();
            Check.due("kind " + kind + " of call with " + a + ", " + b, e.toString(), "nothing thrown");
        }
    }

    private static void any(Rig r, Random random, int kind, int a, int b) {
        ShellPair x = r.x;
        switch (kind) {
            case 0: r.tape(new byte[random.nextInt(60)]); break;
            case 1: x.end(a); break;
            case 2: x.move(a & 1, 1 + random.nextInt(2000)); break;
            case 3: x.move(a, b); break;
            case 4: r.settle(); break;
            case 5: r.tape(random.nextBoolean() ? "" : "host").x.open(random.nextBoolean() ? 0 : a); break;
            case 6: r.tape(COMMANDS[random.nextInt(COMMANDS.length)]).x.exec(random.nextInt(3)); break;
            case 7: x.exec(a); break;
            case 8: r.write(random.nextInt(3), false, "some text that is to be sent"); break;
            case 9: x.write(a, random.nextBoolean()); break;
            case 10: x.read(a, b, random.nextInt(9)); break;
            case 11: x.finish(a, b); break;
            case 12: x.finish(random.nextInt(3), random.nextInt(2)); break;
            case 13: x.rekey(a); break;
            case 14: x.about(a, b * 3); break;
            case 15: x.channel(a, b * 2); break;
            case 16: x.count(a); break;
            case 17: x.port(a, random.nextInt(4) > 0); break;
            case 18: x.set(a, b, EDGES[random.nextInt(EDGES.length)]); break;
            case 19: r.write(a, true, "from far"); break;
            case 20: x.flip(a, random.nextInt(400) - 1, random.nextInt()); break;
            case 21: x.seen(a, b); break;
            case 22: r.tape(new byte[random.nextInt(60)]).x.inject(a); break;
            case 23: if (random.nextInt(4) == 0) { x.quit(a); } break;
            case 24: if (random.nextInt(2) == 0) { x.start(); } break;
            default: r.tape(new byte[32]).x.secret(a); break;
        }
    }

    private static void invariants(int run, Rig r) {
        for (int e = 0; e < 2; e++) {
            Check.holds("wire of run " + run, r.x.about(e, 5) <= 131072);
            Check.holds("channels of run " + run, r.x.about(e, 9) <= 16);
            Check.holds("a reason for BROKEN in run " + run, r.x.about(e, 0) != 2 || r.x.about(e, 1) != 0);
        }
    }

    /** MESSAGES of any number with any fields, well vouched for. */
    private static void messages() {
        for (int run = 0; run < 150; run++) {
            Random random = new Random(run);
            Rig r = Rig.ready();
            r.x.port(7, true);
            Peer p = run % 2 == 0 ? Peer.provenClient(r) : Peer.provenServer(r);
            if (p.plays == 1) {
                r.x.open(0);
                r.x.open(0);
                p.send(Msg.of(91).u32(0).u32(5).u32(100).u32(50));
            } else {
                p.send(Msg.of(90).str("session").u32(5).u32(100).u32(50));
                p.send(Msg.of(90).str("direct-tcpip").u32(6).u32(100).u32(50).str("h").u32(7).str("o").u32(0));
            }
            for (int i = 0; i < 30 && r.x.about(p.other(), 0) == 1; i++) {
                try {
                    p.send(message(random));
                } catch (RuntimeException e) {
                    e.printStackTrace();
                    Check.due("a MESSAGE in run " + run, e.toString(), "nothing thrown");
                }
            }
        }
    }

    private static Msg message(Random random) {
        int[] numbers = {2, 3, 4, 80, 90, 91, 92, 93, 94, 94, 95, 96, 97, 98, 98, 99, 100, 200, 50, 5, 20, 30, 21};
        int number = numbers[random.nextInt(numbers.length)];
        Msg m = Msg.of(number);
        if (number >= 91) {
            m.u32(random.nextInt(10) == 0 ? random.nextInt() : random.nextInt(2));
        }
        if (number == 98) {
            String command = COMMANDS[random.nextInt(COMMANDS.length)];
            return random.nextBoolean() ? m.str("exec").u8(1).str(command) : m.str("exit-status").u8(0).u32(9);
        }
        if (number == 94) {
            return m.str("abc");
        }
        if (number == 93) {
            return m.u32(random.nextInt(100));
        }
        byte[] rest = new byte[random.nextInt(3) * 4];
        return random.nextInt(3) == 0 ? m.raw(rest) : number == 90 ? m.str("session").u32(1).u32(2).u32(3) : m;
    }
}
