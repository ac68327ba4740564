import java.nio.charset.StandardCharsets;
import java.util.ArrayList;
import java.util.Arrays;
import java.util.List;
import java.util.TreeMap;
import java.util.TreeSet;

/** The server of a Model, with its ACCOUNTS, its STORE and FAR. */
final class ModelServer extends ModelEnd {
    static final class Account {
        byte[] name;
        byte[] password;
        byte[] key;
    }

    private enum Verdict { FAILS, FAILS_FREELY, WOULD_DO, RIGHT }

    final List<Account> accounts = new ArrayList<>();
    final TreeMap<String, byte[]> store = new TreeMap<>();
    final TreeSet<Integer> ports = new TreeSet<>();
    byte[] hostSeed;
    boolean gaveService;
    int failures;
    /** The key that was judged last, as it was sent. */
    private byte[] blob;

    ModelServer() {
        super(false);
    }

    void forgets() {
        gaveService = false;
        failures = 0;
    }

    void takesReply(ModelFields f) {
        byte[] point = f.str();
        f.end();
        if (point.length != 32) {
            throw new Disconnect(3);
        }
        takesSecret();
        byte[] hostKey = Peer.blob(Crypto.edPublic(hostSeed));
        byte[] signature = Crypto.edSign(hostSeed, agree(hostKey, point));
        send(Msg.of(31).str(hostKey).str(ownPublic).str(Peer.blob(signature)));
        sendNewKeys();
    }

    void isComplete() {
        // The client speaks first.
    }

    Account account(byte[] name) {
        for (Account a : accounts) {
            if (Arrays.equals(a.name, name)) {
                return a;
            }
        }
        return null;
    }

    void takesAsking(int number, ModelFields f) {
        if (number == 5) {
            String service = f.text();
            f.end();
            isDue(!proven);
            if (!service.equals("ssh-userauth")) {
                throw new Disconnect(7);
            }
            send(Msg.of(6).str(service));
            gaveService = true;
            return;
        }
        isDue(number == 50 && gaveService);
        Account a = account(f.str());
        String service = f.text();
        String method = f.text();
        Verdict verdict = Verdict.FAILS;
        if (method.equals("none")) {
            f.end();
            verdict = Verdict.FAILS_FREELY;
        } else if (method.equals("password")) {
            verdict = judgesPassword(a, f);
        } else if (method.equals("publickey")) {
            verdict = judgesKey(a, f);
        }
        if (!proven) {
            if (!service.equals("ssh-connection")) {
                throw new Disconnect(7);
            }
            answers(verdict);
        }
    }

    private static Verdict judgesPassword(Account a, ModelFields f) {
        boolean changes = f.u8() != 0;
        byte[] password = f.str();
        if (changes) {
            f.str();
        }
        f.end();
        boolean is = a != null && password.length > 0 && Arrays.equals(a.password, password);
        return is && !changes ? Verdict.RIGHT : Verdict.FAILS;
    }

    private Verdict judgesKey(Account a, ModelFields f) {
        int flag = f.u8();
        isDue(flag <= 1);
        boolean known = f.text().equals("ssh-ed25519");
        blob = f.str();
        byte[] key = ModelFields.shaped(blob, 32);
        known = known && a != null && key != null && Arrays.equals(key, a.key);
        byte[] signed = Arrays.copyOf(f.bytes, f.at);
        byte[] signature = flag == 1 ? ModelFields.shaped(f.str(), 64) : null;
        f.end();
        if (flag == 0) {
            return known ? Verdict.WOULD_DO : Verdict.FAILS_FREELY;
        }
        boolean right = known && signature != null
                && Crypto.edVerify(key, new Msg().str(session).raw(signed).bytes(), signature);
        return right ? Verdict.RIGHT : Verdict.FAILS;
    }

    private void answers(Verdict verdict) {
        if (verdict == Verdict.RIGHT) {
            send(Msg.of(52));
            proven = true;
            return;
        }
        if (verdict == Verdict.WOULD_DO) {
            send(Msg.of(60).str("ssh-ed25519").str(blob));
            return;
        }
        failures += verdict == Verdict.FAILS ? 1 : 0;
        send(Msg.of(51).str("publickey,password").u8(0));
        if (verdict == Verdict.FAILS && failures == 6) {
            throw new Disconnect(14);
        }
    }

    // ---- channels

    ModelChannel connection(int port) {
        for (ModelChannel c : channels) {
            if (c != null && c.port != 0 && c.port == port) {
                return c;
            }
        }
        return null;
    }

    int connections() {
        int many = 0;
        for (ModelChannel c : channels) {
            many += c != null && c.port != 0 ? 1 : 0;
        }
        return many;
    }

    void takesOpening(int number, ModelFields f) {
        isDue(number == 90);
        String type = f.text();
        long peer = f.u32();
        long window = f.u32();
        long greatest = f.u32();
        boolean direct = type.equals("direct-tcpip");
        long port = 0;
        if (direct) {
            f.str();
            port = f.u32();
            f.str();
            f.u32();
        }
        if (direct || type.equals("session")) {
            f.end();
        }
        int n = freeNumber();
        boolean may = !direct || port <= 65535 && ports.contains((int) port) && connection((int) port) == null;
        int why = n == 16 ? 4 : !direct && !type.equals("session") ? 3 : may ? 0 : 2;
        if (why > 0) {
            send(Msg.of(92).u32(peer).u32(why).str("").str(""));
            return;
        }
        ModelChannel c = new ModelChannel(n, (int) port, ModelChannel.THERE, settings);
        c.peer = peer;
        c.window = window;
        c.greatest = greatest;
        channels[n] = c;
        send(Msg.of(91).u32(peer).u32(n).u32(settings[2]).u32(settings[3]));
    }

    void takesClosed(ModelChannel c) {
        channels[c.number] = null;
    }

    void takesAnswer(ModelChannel c, boolean succeeded) {
        isDue(false);
    }

    void takesInput(ModelChannel c, int number, long kind, byte[] data) {
        if (number == 95) {
            looksAtWindow(c);
        } else if (c.port != 0 || c.command == null) {
            c.in = Crypto.join(c.in, data);
        } else {
            feeds(c, data);
        }
    }

    void takesEnd(ModelChannel c) {
        if (c.port != 0) {
            closesFar(c);
        } else if (c.command != null && c.takesInput && !c.ending) {
            endsInput(c);
        }
    }

    void isEnded(ModelChannel c) {
        if (c.port != 0) {
            closesFar(c);
            return;
        }
        send(to(c, 98).str("exit-status").u8(0).u32(c.status));
        close(c);
    }

    private void closesFar(ModelChannel c) {
        if (c.endHad && c.endSent && !c.closeSent) {
            close(c);
        }
    }

    void takesRequest(ModelChannel c, String kind, boolean wanted, ModelFields f) {
        String command = null;
        if (kind.equals("exec")) {
            command = f.text();
            f.end();
        }
        boolean begins = command != null && c.port == 0 && c.command == null;
        if (wanted) {
            send(to(c, begins ? 99 : 100));
        }
        if (begins) {
            c.command = command;
            begins(c);
        }
    }

    // ---- commands

    private static List<String> words(ModelChannel c) {
        List<String> words = new ArrayList<>(Arrays.asList(c.command.split(" ")));
        words.removeIf(String::isEmpty);
        return words;
    }

    private static boolean is(ModelChannel c, String command) {
        List<String> words = words(c);
        return !words.isEmpty() && words.get(0).equals(command);
    }

    private void begins(ModelChannel c) {
        List<String> words = words(c);
        boolean cat = is(c, "cat") && words.size() == 1;
        c.takesInput = cat || is(c, "put") && words.size() == 2 && words.get(1).length() <= 64;
        byte[] input = c.in;
        c.in = new byte[0];
        if (input.length > 0) {
            feeds(c, input);
        }
        if (!c.takesInput) {
            performs(c, words);
        } else if (c.endHad) {
            endsInput(c);
        }
    }

    /** What put takes stays in the channel's in till no more comes. */
    private void feeds(ModelChannel c, byte[] data) {
        if (c.takesInput && !c.ending && is(c, "put")) {
            c.in = Crypto.join(c.in, data);
        } else if (c.takesInput && !c.ending) {
            c.out = Crypto.join(c.out, data);
            pump(c);
        }
        looksAtWindow(c);
    }

    private void endsInput(ModelChannel c) {
        if (is(c, "cat")) {
            writes(c, "");
            return;
        }
        String name = words(c).get(1);
        int before = store.containsKey(name) ? store.get(name).length : 0;
        boolean full = !store.containsKey(name) && store.size() == 64 || storeSize() - before + c.in.length > 16384;
        if (full) {
            fails(c, "full", 1);
        } else {
            store.put(name, c.in);
            writes(c, "");
        }
    }

    int storeSize() {
        int all = 0;
        for (byte[] b : store.values()) {
            all += b.length;
        }
        return all;
    }

    private void fails(ModelChannel c, String why, int status) {
        c.errorsOut = (why + "\n").getBytes(StandardCharsets.ISO_8859_1);
        ends(c, status);
    }

    private void writes(ModelChannel c, String text) {
        c.out = Crypto.join(c.out, text.getBytes(StandardCharsets.ISO_8859_1));
        ends(c, 0);
    }

    private void ends(ModelChannel c, int status) {
        c.status = status;
        c.ending = true;
        pump(c);
    }

    private void performs(ModelChannel c, List<String> words) {
        String command = words.isEmpty() ? "" : words.get(0);
        String name = words.size() == 2 ? words.get(1) : null;
        switch (command) {
            case "echo" -> writes(c, String.join(" ", words.subList(1, words.size())) + "\n");
            case "cat" -> fails(c, "usage", 2);
            case "ls" -> {
                if (words.size() == 1) {
                    writes(c, store.isEmpty() ? "" : String.join("\n", store.keySet()) + "\n");
                } else {
                    fails(c, "usage", 2);
                }
            }
            case "exit" -> {
                if (name != null && name.matches("[0-9]{1,9}")) {
                    ends(c, Integer.parseInt(name) % 256);
                } else {
                    fails(c, "usage", 2);
                }
            }
            case "put", "get", "rm", "sum", "size" -> {
                if (name == null) {
                    fails(c, "usage", 2);
                } else if (!store.containsKey(name) || command.equals("put")) {
                    fails(c, "no", 1);
                } else {
                    uses(c, command, name);
                }
            }
            default -> fails(c, "unknown", 127);
        }
    }

    private void uses(ModelChannel c, String command, String name) {
        byte[] content = store.get(name);
        if (command.equals("rm")) {
            store.remove(name);
            writes(c, "");
        } else if (command.equals("get")) {
            writes(c, new String(content, StandardCharsets.ISO_8859_1));
        } else {
            writes(c, (command.equals("size") ? "" + content.length : Check.hex(Crypto.sha256(content))) + "\n");
        }
    }
}
