/** Counts and prints what is not as it is due. */
final class Check {
    interface Call {
        void run();
    }

    private static int wrong = 0;

    private Check() {
    }

    static void due(String what, long got, long want) {
        if (got != want) {
            wrong++;
            System.out.println(what + ": answered " + got + ", due is " + want);
        }
    }

    static void due(String what, String got, String want) {
        if (!got.equals(want)) {
            wrong++;
            System.out.println(what + ": answered \"" + got + "\", due is \"" + want + "\"");
        }
    }

    static void due(String what, byte[] got, byte[] want) {
        due(what, hex(got), hex(want));
    }

    static void holds(String what, boolean is) {
        due(what, is ? 1 : 0, 1);
    }

    static void throwing(String what, Class<? extends RuntimeException> want, Call call) {
        String got = "nothing";
        try {
            call.run();
        } catch (RuntimeException e) {
            got = e.getClass().getSimpleName();
        }
        due(what + " throws", got, want.getSimpleName());
    }

    static String hex(byte[] bytes) {
        if (bytes == null) {
            return "none";
        }
        StringBuilder s = new StringBuilder();
        for (byte b : bytes) {
            s.append(String.format("%02x", b & 255));
        }
        return s.toString();
    }

    /** Ends the program, with 1 if anything was wrong. */
    static void close() {
        System.exit(wrong == 0 ? 0 : 1);
    }
}
