import java.util.Random;

/**
 * Both ENDS do as they must, whatever is held back: no run breaks, and what is written is what is read, through any
 * windows, pieces and exchanges of keys.
 */
public final class HonestRunsTest {
    private static final int CHANNELS = 6;

    private final Random random;
    private final Rig r = Rig.ready();
    private final int run;
    private final int[] port = new int[CHANNELS];
    private final int[] number = new int[CHANNELS];
    private final StringBuilder[] sent = new StringBuilder[CHANNELS];
    private final StringBuilder[] came = new StringBuilder[CHANNELS];
    private final StringBuilder[] sentByFar = new StringBuilder[CHANNELS];
    private final StringBuilder[] cameToFar = new StringBuilder[CHANNELS];
    private int text;

    private HonestRunsTest(int run) {
        this.run = run;
        random = new Random(run);
    }

    public static void main(String[] args) {
        for (int run = 0; run < 50; run++) {
            new HonestRunsTest(run).runs();
        }
        Check.close();
    }

    private void runs() {
        if (random.nextBoolean()) {
            r.withKey();
        }
        for (int e = 0; e < 2; e++) {
            r.x.set(e, 0, new int[] {1, 12, 21, 12}[random.nextInt(4)]);
            r.x.set(e, 1, new int[] {12, 21, 1, 12}[random.nextInt(3)]);
            r.x.set(e, 2, random.nextInt(3) == 0 ? 4096 : 2 + random.nextInt(100));
            r.x.set(e, 3, random.nextInt(3) == 0 ? 1024 : 16 + random.nextInt(20));
            r.x.set(e, 4, random.nextInt(3) == 0 ? 1 << 30 : 256 + random.nextInt(2000));
        }
        r.secret(0, Rig.seed("c" + run)).secret(1, Rig.seed("s" + run));
        r.x.start();
        for (int i = 0; i < 5000 && r.x.about(0, 8) == 0; i++) {
            r.x.move(random.nextInt(2), 1 + random.nextInt(200));
        }
        Check.due("proven in run " + run, r.x.about(0, 8), 1);
        begins();
        for (int i = 0; i < 300; i++) {
            step();
        }
        ends();
    }

    private void begins() {
        for (int i = 0; i < CHANNELS; i++) {
            sent[i] = new StringBuilder();
            came[i] = new StringBuilder();
            sentByFar[i] = new StringBuilder();
            cameToFar[i] = new StringBuilder();
            port[i] = i % 2 == 0 ? 0 : 100 + i;
            if (port[i] != 0) {
                r.x.port(port[i], true);
            }
            number[i] = r.tape(port[i] == 0 ? "" : "host").x.open(port[i]);
        }
        r.settle();
        for (int i = 0; i < CHANNELS; i += 2) {
            r.exec(number[i], "cat");
        }
    }

    private String more() {
        StringBuilder s = new StringBuilder();
        int n = random.nextInt(60);
        for (int i = 0; i < n; i++) {
            s.append((char) (text++ * 7 & 255));
        }
        return s.toString();
    }

    private void step() {
        int i = random.nextInt(CHANNELS);
        int kind = random.nextInt(12);
        if (kind == 0) {
            String s = more();
            r.write(number[i], false, s);
            sent[i].append(s);
        } else if (kind == 1 && port[i] != 0) {
            String s = more();
            r.write(port[i], true, s);
            sentByFar[i].append(s);
        } else if (kind == 2) {
            came[i].append(r.text(number[i], 0));
        } else if (kind == 3 && port[i] != 0) {
            cameToFar[i].append(r.text(port[i], 2));
        } else if (kind == 4 && random.nextInt(6) == 0) {
            rekeys(random.nextInt(2));
        } else if (kind == 5 && random.nextInt(4) == 0) {
            r.x.set(random.nextInt(2), 2, 2 + random.nextInt(300));
        } else {
            r.x.move(random.nextInt(2), 1 + random.nextInt(500));
        }
        Check.due("open in run " + run, r.state(0) + r.state(1), "1/01/0");
    }

    private void rekeys(int e) {
        try {
            r.x.rekey(e);
        } catch (IllegalStateException at) {
            Check.holds("an exchange goes on in run " + run, r.x.about(e, 0) == 1);
        }
    }

    private void ends() {
        for (int i = 0; i < CHANNELS; i++) {
            r.x.finish(number[i], 0);
            if (port[i] != 0) {
                r.x.finish(port[i], 2);
            }
        }
        for (int round = 0; round < 3000 && r.x.about(0, 9) > 0; round++) {
            r.settle();
            for (int i = 0; i < CHANNELS; i++) {
                came[i].append(r.text(number[i], 0));
                if (port[i] != 0 && r.x.count(3) > 0) {
                    readsFar(i);
                }
            }
        }
        for (int i = 0; i < CHANNELS; i++) {
            Check.due("gone in run " + run, r.x.channel(number[i], 0), 3);
            came[i].append(r.text(number[i], 0));
            if (port[i] == 0) {
                Check.due("cat in run " + run, came[i].toString(), sent[i].toString());
                Check.due("status in run " + run, r.x.channel(number[i], 2), 0);
            } else {
                Check.due("from FAR in run " + run, came[i].toString(), sentByFar[i].toString());
                Check.holds("to FAR in run " + run, sent[i].toString().startsWith(cameToFar[i].toString()));
            }
        }
        Check.due("all gone in run " + run, r.x.about(0, 9) + r.x.about(1, 9) + r.x.count(3), 0);
        Check.due("open at the end of run " + run, r.state(0) + r.state(1), "1/01/0");
        Check.due("exchanges in run " + run, r.x.about(0, 4), r.x.about(1, 4));
        for (int e = 0; e < 2; e++) {
            Check.due("packets in run " + run, r.x.about(e, 2), r.x.about(1 - e, 3));
        }
    }

    private void readsFar(int i) {
        try {
            cameToFar[i].append(r.text(port[i], 2));
        } catch (java.util.NoSuchElementException gone) {
            Check.holds("gone with what was not read, in run " + run, true);
        }
    }
}
