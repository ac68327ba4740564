/** A channel as one END of a Model sees it. */
final class ModelChannel {
    static final int ASKED = 0;
    static final int THERE = 1;
    static final int REFUSED = 2;
    static final int GONE = 3;

    final int number;
    /** 0: a session. */
    final int port;
    final long told;
    int state;
    long peer;
    long window;
    long greatest;
    long granted;
    byte[] in = {};
    byte[] errorsIn = {};
    byte[] out = {};
    byte[] errorsOut = {};
    boolean ending;
    boolean endSent;
    boolean endHad;
    boolean closing;
    boolean closeSent;
    int reason;
    int status = -1;
    int requests;
    int succeeded;
    int failed;
    String command;
    boolean takesInput;

    ModelChannel(int number, int port, int state, int[] settings) {
        this.number = number;
        this.port = port;
        this.state = state;
        granted = settings[2];
        told = settings[3];
    }

    boolean inUse() {
        return state == ASKED || state == THERE;
    }

    int tells(int what) {
        return switch (what) {
            case 0 -> state;
            case 1 -> reason;
            case 2 -> status;
            case 3 -> in.length;
            case 4 -> errorsIn.length;
            case 5 -> out.length;
            case 6 -> (int) window;
            case 7 -> (int) granted;
            case 8 -> endHad || state == GONE ? 1 : 0;
            case 9 -> succeeded;
            default -> failed;
        };
    }
}
