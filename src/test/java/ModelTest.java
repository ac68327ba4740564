import java.util.ArrayList;
import java.util.List;

/**
 * All promises: a ShellPair and the Model get the same calls, by dice, and tell the same. A run is honest, or one of
 * its ENDS gets forged packets. java ModelTest FROM MANY STEPS looks at more runs than .ci/run does.
 */
public final class ModelTest {
    private final Dice dice;
    private final Both both = new Both();
    private final Forger forger;
    /** The END that gets forged packets, or -1. */
    private int forged = -1;

    private ModelTest(long seed) {
        dice = new Dice(seed);
        forger = new Forger(dice);
    }

    public static void main(String[] arguments) {
        boolean more = arguments.length == 3;
        long from = more ? Long.parseLong(arguments[0]) : 1;
        int many = more ? Integer.parseInt(arguments[1]) : 80;
        int steps = more ? Integer.parseInt(arguments[2]) : 250;
        for (long seed = from; seed < from + many; seed++) {
            ModelTest t = new ModelTest(seed);
            t.runs(steps);
            if (t.both.differ) {
                List<String> log = t.both.log;
                Check.due("seed " + seed, String.join("\n  ", log.subList(Math.max(0, log.size() - 25), log.size())), "");
            }
        }
        Check.close();
    }

    private void runs(int steps) {
        prepares();
        starts();
        for (int i = 0; i < steps && !both.differ; i++) {
            steps();
            both.looks();
        }
    }

    private void prepares() {
        for (int e = 0; e < 2; e++) {
            if (dice.oneIn(2)) {
                both.tape(dice.bytes(32)).secret(e);
            }
            both.tape((e == 0 ? "al" : "bo") + (dice.oneIn(6) ? "" : "pw" + e)).user(2, true);
            if (dice.oneIn(2)) {
                both.tape(Crypto.edPublic(Rig.IDENTITY)).allow(e);
            }
        }
        both.tape(Rig.HOST).secret(2);
        if (dice.oneIn(2)) {
            both.tape(Rig.IDENTITY).secret(3);
        }
        if (dice.oneIn(3)) {
            both.tape(Crypto.edPublic(dice.wrongOneIn(12) ? Forger.OTHER_HOST : Rig.HOST)).secret(4);
        }
        both.tape(dice.one("al", "al", "bo", "cy") + dice.one("pw0", "pw0", "pw1", "")).user(2, false);
        for (int i = dice.below(4); i > 0; i--) {
            sets();
            both.port(1 + dice.below(4), true);
        }
    }

    private void sets() {
        int what = dice.below(5);
        int v = switch (what) {
            case 0, 1 -> dice.one(1, 2, 12, 21, 12, 21, 11);
            case 2 -> dice.one(1, 2, 3, 10, 50, 500, 4096, 16384, 16385);
            case 3 -> dice.one(15, 16, 17, 40, 1024, 32768, 32769);
            default -> dice.one(255, 256, 300, 1000, 3000, 1 << 30);
        };
        both.set(dice.below(2), what, v);
    }

    private void starts() {
        both.start();
        forged = dice.oneIn(3) ? dice.below(2) : -1;
        if (forged >= 0 && dice.oneIn(4)) {
            tampers(forged);
        } else if (forged < 0 && dice.oneIn(2)) {
            both.moves(16);
        }
    }

    /** Other lines, and another KEXINIT behind them, than the other END sent. */
    private void tampers(int e) {
        StringBuilder lines = new StringBuilder();
        for (int i = e == 1 ? dice.below(2) : dice.below(11); i > 0; i--) {
            lines.append(dice.one("", "x", "SSH", "ssh-2.0-", "\u00ff\u0000", "\r", "y".repeat(250 + dice.below(6))));
            lines.append(dice.one("\n", "\r\n"));
        }
        lines.append(dice.one("SSH-2.0-", "SSH-2.0-x y~", "SSH-2.0-" + "v".repeat(240 + dice.below(9))));
        lines.append(dice.wrongOneIn(6) ? dice.one("\u007f", "\r\r\n", "\u001f\n") : dice.one("\n", "\r\n"));
        byte[] kexinit = forger.init().bytes();
        ModelFlow open = new ModelFlow();
        byte[] first = open.seal(kexinit, dice.bytes(open.leastPadding(kexinit.length)));
        // All that stands on the wire is written over: MESSAGE 2 has the bytes that are missing.
        byte[] ignored = Msg.of(2).str(dice.bytes(300)).bytes();
        byte[] second = open.seal(ignored, dice.bytes(open.leastPadding(ignored.length)));
        both.rewire(e, Crypto.join(Rig.latin(lines.toString()), first, second));
        both.move(e, 1 << 20);
    }

    private boolean isOpen(int e) {
        return both.m.endOf(e).state == ModelEnd.OPEN;
    }

    private void steps() {
        if (!isOpen(0) && !isOpen(1) && dice.oneIn(3) || !(isOpen(0) && isOpen(1)) && dice.oneIn(12)) {
            starts();
        } else if (forged >= 0 && dice.below(4) > 0) {
            forges();
        } else if (dice.oneIn(3)) {
            both.move(forged >= 0 ? forged : dice.below(2), dice.oneIn(3) ? 1 + dice.below(60) : 1 << 20);
        } else if (dice.oneIn(20)) {
            changes();
        } else if (dice.oneIn(20) && forged < 0) {
            both.moves(12);
        } else {
            calls();
        }
    }

    private void forges() {
        ModelEnd e = both.m.endOf(forged);
        both.move(forged, 1 << 20);
        if (e.state != ModelEnd.OPEN || !e.isBetweenPackets()) {
            return;
        }
        both.tape(forger.packet(e)).inject(forged);
        for (int i = dice.oneIn(10) ? 5 : 0; i > 0; i--) {
            both.move(forged, 1 + dice.below(30));
        }
        both.move(forged, 1 << 20);
    }

    private void changes() {
        switch (dice.below(6)) {
            case 0 -> sets();
            case 1 -> both.port(1 + dice.below(5), dice.oneIn(2));
            case 2 -> both.tape(dice.one("alpw0", "bopw1")).user(2, false);
            case 3 -> both.tape(dice.oneIn(2) ? Rig.IDENTITY : Forger.OTHER_IDENTITY).secret(3);
            case 4 -> {
                if (dice.wrongOneIn(6)) {
                    both.quit(dice.below(2));
                }
            }
            default -> {
                int e = dice.below(2);
                int n = both.m.endOf(e).wire.size;
                if (dice.wrongOneIn(3)) {
                    both.flip(e, dice.below(n + 1), 1 << dice.below(9));
                }
            }
        }
    }

    private int channel() {
        List<Integer> numbers = new ArrayList<>();
        for (ModelChannel c : both.m.client.channels) {
            if (c != null && (c.inUse() || dice.oneIn(6))) {
                numbers.add(c.number);
            }
        }
        return numbers.isEmpty() || dice.oneIn(30) ? dice.below(20) - 2 : numbers.get(dice.below(numbers.size()));
    }

    private int connection() {
        List<Integer> ports = new ArrayList<>();
        for (ModelChannel c : both.m.server.channels) {
            if (c != null && c.port != 0) {
                ports.add(c.port);
            }
        }
        return ports.isEmpty() || dice.oneIn(20) ? dice.below(6) : ports.get(dice.below(ports.size()));
    }

    private void calls() {
        switch (dice.below(10)) {
            case 0, 1 -> both.tape(dice.bytes(dice.below(30))).open(dice.one(0, 0, 0, 1, 2, 3, 4, 65535, 65536, -1));
            case 2, 3 -> both.tape(dice.command()).exec(channel());
            case 4, 5 -> {
                both.tape(dice.bytes(dice.oneIn(10) ? dice.below(3000) : dice.below(80)));
                boolean far = dice.oneIn(3);
                both.write(far ? connection() : channel(), far);
            }
            case 6, 7 -> {
                int kind = dice.oneIn(30) ? 3 : dice.below(3);
                int n = kind == 2 ? connection() : channel();
                for (int i = dice.one(1, 1, 30); i > 0; i--) {
                    both.read(n, kind, dice.oneIn(30) ? dice.one(0, 8) : 1 + dice.below(7));
                }
            }
            case 8 -> {
                int how = dice.oneIn(30) ? 3 : dice.below(3);
                both.finish(how == 2 ? connection() : channel(), how);
            }
            default -> both.rekey(dice.oneIn(30) ? 2 : dice.below(2));
        }
    }
}
