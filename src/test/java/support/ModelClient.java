import java.util.Arrays;
import java.util.List;

/** The client of a Model. */
final class ModelClient extends ModelEnd {
    byte[] user = {};
    byte[] password = {};
    byte[] identity;
    byte[] knownHost;
    int asked;
    boolean gotService;
    /** 0: none is, 1: 51 or 52, 2: 60, too. */
    int answerDue;
    byte[] askedIdentity;
    private byte[] askedUser;
    private boolean triedKey;
    private boolean triedPassword;

    ModelClient() {
        super(true);
    }

    void forgets() {
        asked = 0;
        gotService = false;
        answerDue = 0;
        triedKey = false;
        triedPassword = false;
    }

    void takesReply(ModelFields f) {
        byte[] hostKey = f.str();
        byte[] point = f.str();
        byte[] signed = f.str();
        f.end();
        byte[] key = ModelFields.shaped(hostKey, 32);
        byte[] signature = ModelFields.shaped(signed, 64);
        if (key == null || point.length != 32 || signature == null) {
            throw new Disconnect(3);
        }
        if (!Crypto.edVerify(key, agree(hostKey, point), signature)) {
            throw new Disconnect(3);
        }
        if (knownHost != null && !Arrays.equals(knownHost, key)) {
            throw new Disconnect(9);
        }
        sendNewKeys();
    }

    void isComplete() {
        send(Msg.of(5).str("ssh-userauth"));
    }

    void takesAsking(int number, ModelFields f) {
        if (number == 6) {
            String service = f.text();
            f.end();
            isDue(service.equals("ssh-userauth") && !gotService);
            gotService = true;
            answerDue = 1;
            ask(asking(user, "none"));
            return;
        }
        isDue(answerDue > 0);
        if (number == 52) {
            f.end();
            answerDue = 0;
            proven = true;
        } else if (number == 51) {
            List<String> methods = Arrays.asList(f.text().split(",", -1));
            f.u8();
            f.end();
            asksNext(methods);
        } else {
            isDue(number == 60 && answerDue == 2);
            proves(f);
        }
    }

    private void ask(Msg m) {
        send(m);
        asked++;
    }

    private static Msg asking(byte[] user, String method) {
        return Msg.of(50).str(user).str("ssh-connection").str(method);
    }

    private void asksNext(List<String> methods) {
        if (identity != null && !triedKey && methods.contains("publickey")) {
            triedKey = true;
            askedUser = user;
            askedIdentity = identity;
            answerDue = 2;
            ask(asking(user, "publickey").u8(0).str("ssh-ed25519").str(Peer.blob(Crypto.edPublic(identity))));
        } else if (password.length > 0 && !triedPassword && methods.contains("password")) {
            triedPassword = true;
            answerDue = 1;
            ask(asking(user, "password").u8(0).str(password));
        } else {
            throw new Disconnect(14);
        }
    }

    private void proves(ModelFields f) {
        String name = f.text();
        byte[] key = f.str();
        f.end();
        isDue(name.equals("ssh-ed25519") && Arrays.equals(key, Peer.blob(Crypto.edPublic(askedIdentity))));
        byte[] begin = asking(askedUser, "publickey").u8(1).str(name).str(key).bytes();
        byte[] signature = Crypto.edSign(askedIdentity, new Msg().str(session).raw(begin).bytes());
        answerDue = 1;
        ask(new Msg().raw(begin).str(Peer.blob(signature)));
    }

    int open(int port, byte[] host) {
        int n = freeNumber();
        channels[n] = new ModelChannel(n, port, ModelChannel.ASKED, settings);
        Msg m = Msg.of(90).str(port == 0 ? "session" : "direct-tcpip").u32(n).u32(settings[2]).u32(settings[3]);
        acts(() -> send(port == 0 ? m : m.str(host).u32(port).str("0.0.0.0").u32(0)));
        return n;
    }

    void exec(ModelChannel c, byte[] command) {
        send(to(c, 98).str("exec").u8(1).str(command));
        c.requests++;
    }

    void takesOpening(int number, ModelFields f) {
        if (number == 90) {
            f.str();
            long peer = f.u32();
            f.u32();
            f.u32();
            send(Msg.of(92).u32(peer).u32(1).str("").str(""));
            return;
        }
        long n = f.u32();
        isDue(n < 16 && channels[(int) n] != null && channels[(int) n].state == ModelChannel.ASKED);
        ModelChannel c = channels[(int) n];
        long first = f.u32();
        if (number == 91) {
            long window = f.u32();
            long greatest = f.u32();
            f.end();
            c.peer = first;
            c.window = window;
            c.greatest = greatest;
            c.state = ModelChannel.THERE;
            pump(c);
        } else {
            f.str();
            f.str();
            f.end();
            c.reason = (int) first;
            c.out = new byte[0];
            c.state = ModelChannel.REFUSED;
        }
    }

    void takesInput(ModelChannel c, int number, long kind, byte[] data) {
        if (number == 94) {
            c.in = Crypto.join(c.in, data);
        } else if (kind == 1) {
            c.errorsIn = Crypto.join(c.errorsIn, data);
        } else {
            looksAtWindow(c);
        }
    }

    void takesEnd(ModelChannel c) {
        // It is told by the call channel alone.
    }

    void takesClosed(ModelChannel c) {
        c.state = ModelChannel.GONE;
    }

    void takesRequest(ModelChannel c, String kind, boolean wanted, ModelFields f) {
        if (kind.equals("exit-status")) {
            long status = f.u32();
            f.end();
            c.status = wanted ? c.status : (int) status;
        }
        if (wanted) {
            send(to(c, 100));
        }
    }

    void takesAnswer(ModelChannel c, boolean succeeded) {
        isDue(c.requests > 0);
        c.requests--;
        c.succeeded += succeeded ? 1 : 0;
        c.failed += succeeded ? 0 : 1;
    }

    void isEnded(ModelChannel c) {
        // The client closes by the call finish alone.
    }
}
