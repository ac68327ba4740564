import java.util.Random;

/** The choices of a test, the same for the same seed. */
final class Dice {
    private final Random random;
    /** How many times rarer what is wrong is. */
    private final int tame;

    Dice(long seed) {
        random = new Random(seed);
        tame = one(1, 10, 100);
    }

    int below(int n) {
        return random.nextInt(n);
    }

    boolean oneIn(int n) {
        return below(n) == 0;
    }

    /** For what ends a connection, or is wrong in another way. */
    boolean wrongOneIn(int n) {
        return below(n * tame) == 0;
    }

    byte[] bytes(int n) {
        byte[] b = new byte[n];
        random.nextBytes(b);
        return b;
    }

    int one(int... of) {
        return of[below(of.length)];
    }

    String one(String... of) {
        return of[below(of.length)];
    }

    String text(String s) {
        return wrongOneIn(25) ? one("", "x", s + "x", s.substring(0, s.length() / 2)) : s;
    }

    long number(long v) {
        return wrongOneIn(12) ? one(0, 1, 5, 15, 16, 17, 0x7fffffff, 0x80000000, -1) & 0xffffffffL : v;
    }

    String command() {
        String name = oneIn(15) ? one("x".repeat(64), "y".repeat(65)) : one("a", "ab", "b", "a long one", "\u00e9", "a\n");
        String blank = oneIn(8) ? "  " : " ";
        String usual = one("cat", "cat", "put" + blank + name, "put " + name, "get " + name, "get" + blank + name,
                "rm " + name, "ls", "sum " + name, "size " + name, "echo" + blank + "one" + blank + "two",
                "echo " + "z".repeat(below(900)));
        String exit = "exit " + one("0", "7", "255", "256", "999999999", "1234567890", "x", "-1", "", "\u00b2");
        String odd = one("", " ", "nope", "cat x", "ls x", "put", "put a b", "get", "get a b", "exit", "echo", "Cat");
        String command = oneIn(12) ? odd : oneIn(12) ? exit : usual;
        return (oneIn(10) ? " " : "") + command + (oneIn(10) ? " " : "");
    }
}
