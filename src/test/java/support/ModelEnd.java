import java.io.ByteArrayOutputStream;
import java.nio.charset.StandardCharsets;
import java.util.ArrayList;
import java.util.Arrays;
import java.util.List;

/** What both ENDS of a Model do. An exception stands for what the document says ends an END's doing. */
abstract class ModelEnd {
    /** DISCONNECT with a reason. */
    static final class Disconnect extends RuntimeException {
        final int reason;

        Disconnect(int reason) {
            super(null, null, false, false);
            this.reason = reason;
        }
    }

    /** An END that is not OPEN, or is not any more, does nothing more. */
    static final class Stop extends RuntimeException {
        Stop() {
            super(null, null, false, false);
        }
    }

    static final int OPEN = 1;
    static final int BROKEN = 2;
    static final int CLOSED = 3;
    private static final String[] CIPHERS = {"", "aes128-ctr", "aes256-ctr"};
    private static final String[] MACS = {"", "hmac-sha2-256", "hmac-sha2-256-etm@openssh.com"};

    final boolean isClient;
    final String line;
    final ModelWire wire = new ModelWire();
    final int[] settings = {12, 21, 4096, 1024, 1 << 30};
    ModelEnd other;
    int state;
    int reason;
    int sent;
    int taken;
    int exchanges;
    boolean proven;
    ModelChannel[] channels = new ModelChannel[16];

    String otherLine;
    ModelFlow outward = new ModelFlow();
    ModelFlow inward = new ModelFlow();
    boolean sentInit;
    int due;
    byte[] ownInit;
    byte[] otherInit;
    byte[] ownPublic;
    byte[] session;
    int waitingBytes;
    private boolean holding;
    private boolean passesNext;
    private byte[] secret;
    private byte[] shared;
    private byte[] hash;
    private final int[] chosen = new int[4];
    private ModelFlow nextOutward;
    private ModelFlow nextInward;
    private final List<byte[]> waiting = new ArrayList<>();
    private final ByteArrayOutputStream gathered = new ByteArrayOutputStream();
    private byte[] head;
    private int linesPassed;

    private byte[] seed = new byte[32];
    private long chanceNumber;
    private byte[] chanceBlock;
    private int chanceUsed = 32;

    ModelEnd(boolean isClient) {
        this.isClient = isClient;
        line = isClient ? "SSH-2.0-client_1" : "SSH-2.0-server_1";
    }

    abstract void forgets();

    abstract void takesReply(ModelFields f);

    abstract void takesAsking(int number, ModelFields f);

    abstract void takesOpening(int number, ModelFields f);

    abstract void takesInput(ModelChannel c, int number, long kind, byte[] data);

    abstract void takesEnd(ModelChannel c);

    abstract void takesClosed(ModelChannel c);

    abstract void takesRequest(ModelChannel c, String kind, boolean wanted, ModelFields f);

    abstract void takesAnswer(ModelChannel c, boolean succeeded);

    abstract void isComplete();

    abstract void isEnded(ModelChannel c);

    void reseed(byte[] b) {
        seed = b;
        chanceNumber = 0;
        chanceUsed = 32;
    }

    byte[] chance(int n) {
        byte[] b = new byte[n];
        for (int i = 0; i < n; i++) {
            if (chanceUsed == 32) {
                chanceBlock = Crypto.sha256(seed, new Msg().u32(chanceNumber >>> 32).u32(chanceNumber).bytes());
                chanceNumber++;
                chanceUsed = 0;
            }
            b[i] = chanceBlock[chanceUsed];
            chanceUsed++;
        }
        return b;
    }

    void start() {
        state = OPEN;
        reason = 0;
        sent = 0;
        taken = 0;
        exchanges = 0;
        proven = false;
        channels = new ModelChannel[16];
        otherLine = null;
        outward = new ModelFlow();
        inward = new ModelFlow();
        due = 0;
        session = null;
        passesNext = false;
        waiting.clear();
        waitingBytes = 0;
        gathered.reset();
        head = null;
        linesPassed = 0;
        forgets();
        other.wire.put((line + "\r\n").getBytes(StandardCharsets.ISO_8859_1));
        sendInit();
    }

    /** Does what a call asks for, if the END is OPEN. */
    void acts(Runnable what) {
        if (state != OPEN) {
            return;
        }
        try {
            what.run();
        } catch (Stop s) {
            // The END was BROKEN by LOSS.
        }
    }

    void quit() {
        put(lastMessage(11));
        state = CLOSED;
        reason = 11;
    }

    private void disconnect(int why) {
        put(lastMessage(why));
        state = BROKEN;
        reason = why;
    }

    private static byte[] lastMessage(int why) {
        return Msg.of(1).u32(why).str("").str("").bytes();
    }

    private void isLost() {
        state = BROKEN;
        reason = 10;
        throw new Stop();
    }

    // ---- sending

    void send(Msg m) {
        byte[] payload = m.bytes();
        int number = payload[0] & 255;
        if (state != OPEN) {
            throw new Stop();
        }
        if (holding && !(number >= 1 && number <= 4 || number >= 20 && number <= 49)) {
            if (waitingBytes + payload.length + 4 > 65536) {
                isLost();
            }
            waiting.add(payload);
            waitingBytes += payload.length + 4;
            return;
        }
        put(payload);
        looksAtLimit();
    }

    private void put(byte[] payload) {
        int padding = outward.leastPadding(payload.length);
        if (!other.wire.hasRoom(5 + payload.length + padding + outward.tagSize())) {
            isLost();
        }
        byte[] packet = outward.seal(payload, chance(padding));
        other.wire.put(packet);
        outward.bytes += packet.length;
        sent++;
    }

    private void looksAtLimit() {
        if (exchanges > 0 && due == 0 && !sentInit && outward.bytes >= settings[4]) {
            sendInit();
        }
    }

    private static String names(int digits, String[] of) {
        String first = of[digits > 9 ? digits / 10 : digits];
        return digits > 9 ? first + "," + of[digits % 10] : first;
    }

    void sendInit() {
        String ciphers = names(settings[0], CIPHERS);
        String macs = names(settings[1], MACS);
        ownInit = Msg.of(20).raw(chance(16)).str("curve25519-sha256,curve25519-sha256@libssh.org").str("ssh-ed25519")
                .str(ciphers).str(ciphers).str(macs).str(macs).str("none").str("none").str("").str("").u8(0).u32(0).bytes();
        sentInit = true;
        holding = true;
        put(ownInit);
    }

    // ---- taking

    void take(int b) {
        if (state != OPEN) {
            return;
        }
        try {
            gathered.write(b);
            if (otherLine == null) {
                takeLine(b);
            } else {
                takePacket();
            }
        } catch (Disconnect d) {
            acts(() -> disconnect(d.reason));
        } catch (Stop s) {
            // The END was BROKEN by LOSS.
        }
    }

    /** Whether all that has come was whole lines and packets. */
    boolean isBetweenPackets() {
        return otherLine != null && gathered.size() == 0;
    }

    private void takeLine(int b) {
        if (gathered.size() == 256) {
            throw new Disconnect(8);
        }
        if (b != '\n') {
            return;
        }
        String s = gathered.toString(StandardCharsets.ISO_8859_1);
        s = s.substring(0, s.length() - (s.endsWith("\r\n") ? 2 : 1));
        gathered.reset();
        if (isClient && !s.startsWith("SSH-") && linesPassed < 8) {
            linesPassed++;
            return;
        }
        if (!s.startsWith("SSH-2.0-") || !s.chars().allMatch(c -> c >= 32 && c <= 126)) {
            throw new Disconnect(8);
        }
        otherLine = s;
    }

    private void takePacket() {
        int headSize = inward.headSize();
        if (gathered.size() < headSize) {
            return;
        }
        if (gathered.size() == headSize) {
            head = inward.isEtm() ? gathered.toByteArray() : inward.crypt(gathered.toByteArray());
            long length = new ModelFields(head).u32();
            if (length < 12 || length > 35000 || (length + (inward.isEtm() ? 0 : 4)) % inward.block() != 0) {
                throw new Disconnect(2);
            }
        }
        int length = (int) new ModelFields(head).u32();
        if (gathered.size() < 4 + length + inward.tagSize()) {
            return;
        }
        byte[] plain = opened(gathered.toByteArray(), 4 + length);
        int padding = plain[4] & 255;
        if (padding < 4 || padding > length - 2) {
            throw new Disconnect(2);
        }
        gathered.reset();
        inward.number++;
        taken++;
        if (passesNext) {
            passesNext = false;
            return;
        }
        takeMessage(Arrays.copyOfRange(plain, 5, 4 + length - padding));
    }

    private byte[] opened(byte[] packet, int n) {
        byte[] tag = Arrays.copyOfRange(packet, n, packet.length);
        byte[] begin = Arrays.copyOf(packet, n);
        if (inward.isEtm() && !Arrays.equals(tag, inward.tag(begin))) {
            throw new Disconnect(5);
        }
        byte[] plain = Crypto.join(head, inward.crypt(Arrays.copyOfRange(packet, head.length, n)));
        if (inward.mac == 1 && !Arrays.equals(tag, inward.tag(plain))) {
            throw new Disconnect(5);
        }
        return plain;
    }

    private void takeMessage(byte[] payload) {
        ModelFields f = new ModelFields(payload);
        int number = f.u8();
        if (number >= 1 && number <= 4) {
            takePlain(number, f);
        } else if (due != 0) {
            isDue(number == due);
            if (number == 21) {
                takeNewKeys(f);
            } else {
                takesReply(f);
            }
        } else if (number == 20) {
            takeInit(f);
        } else if (number == 5 || number == 6 || number >= 50 && number <= 52 || number == 60) {
            isDue(exchanges > 0);
            takesAsking(number, f);
        } else if (number >= 80 && number <= 82 || number >= 90 && number <= 100) {
            isDue(proven);
            takeChannels(number, f);
        } else {
            isDue(number != 21 && number != 30 && number != 31);
            send(Msg.of(3).u32(inward.number - 1));
        }
    }

    static void isDue(boolean is) {
        if (!is) {
            throw new Disconnect(2);
        }
    }

    private void takePlain(int number, ModelFields f) {
        if (number == 2) {
            f.str();
        } else if (number == 3) {
            f.u32();
        } else if (number == 4) {
            f.u8();
            f.str();
            f.str();
        } else {
            long why = f.u32();
            f.str();
            f.str();
            state = CLOSED;
            reason = (int) why;
        }
    }

    // ---- keys exchanged

    private static String[] list(String names) {
        return names.split(",", -1);
    }

    private static String[] lists(ModelFields f) {
        f.raw(16);
        String[] lists = new String[10];
        for (int i = 0; i < 10; i++) {
            lists[i] = f.text();
        }
        return lists;
    }

    private void takeInit(ModelFields f) {
        String[] others = lists(f);
        boolean follows = f.u8() != 0;
        f.u32();
        f.end();
        otherInit = f.bytes;
        due = isClient ? 31 : 30;
        if (!sentInit) {
            sendInit();
        }
        ModelFields own = new ModelFields(ownInit);
        own.u8();
        String[] owns = lists(own);
        for (int i = 0; i < 8; i++) {
            String name = choose(isClient ? owns[i] : others[i], isClient ? others[i] : owns[i]);
            if (i >= 2 && i < 6) {
                chosen[i - 2] = Arrays.asList(i < 4 ? CIPHERS : MACS).indexOf(name);
            }
        }
        boolean same = list(owns[0])[0].equals(list(others[0])[0]) && list(owns[1])[0].equals(list(others[1])[0]);
        passesNext = follows && !same;
        if (isClient) {
            takesSecret();
            send(Msg.of(30).str(ownPublic));
        }
    }

    private static String choose(String ofClient, String ofServer) {
        for (String name : list(ofClient)) {
            if (!name.isEmpty() && Arrays.asList(list(ofServer)).contains(name)) {
                return name;
            }
        }
        throw new Disconnect(3);
    }

    void takesSecret() {
        secret = chance(32);
        ownPublic = Crypto.x25519Public(secret);
    }

    /** H, with what the other sent as its public key. */
    byte[] agree(byte[] hostKey, byte[] otherPublic) {
        try {
            shared = Crypto.x25519(secret, otherPublic);
        } catch (IllegalStateException e) {
            throw new Disconnect(3);
        }
        Msg m = new Msg();
        m.str(isClient ? line : otherLine).str(isClient ? otherLine : line);
        m.str(isClient ? ownInit : otherInit).str(isClient ? otherInit : ownInit).str(hostKey);
        m.str(isClient ? ownPublic : otherPublic).str(isClient ? otherPublic : ownPublic).raw(Crypto.mpint(shared));
        hash = Crypto.sha256(m.bytes());
        session = session == null ? hash : session;
        nextOutward = flow(isClient ? 0 : 1);
        nextInward = flow(isClient ? 1 : 0);
        return hash;
    }

    private ModelFlow flow(int direction) {
        return ModelFlow.with(chosen[direction], chosen[2 + direction], key('A' + direction), key('C' + direction),
                key('E' + direction));
    }

    private byte[] key(int letter) {
        return Crypto.sha256(Crypto.mpint(shared), hash, new byte[] {(byte) letter}, session);
    }

    void sendNewKeys() {
        due = 21;
        put(new byte[] {21});
        nextOutward.number = outward.number;
        outward = nextOutward;
        holding = false;
        List<byte[]> all = new ArrayList<>(waiting);
        waiting.clear();
        waitingBytes = 0;
        for (byte[] payload : all) {
            put(payload);
        }
    }

    private void takeNewKeys(ModelFields f) {
        f.end();
        nextInward.number = inward.number;
        inward = nextInward;
        due = 0;
        sentInit = false;
        exchanges++;
        looksAtLimit();
        if (exchanges == 1) {
            isComplete();
        }
    }

    // ---- channels

    int channelsInUse() {
        int many = 0;
        for (ModelChannel c : channels) {
            many += c != null && c.inUse() ? 1 : 0;
        }
        return many;
    }

    int freeNumber() {
        int n = 0;
        while (n < 16 && channels[n] != null && channels[n].inUse()) {
            n++;
        }
        return n;
    }

    private void takeChannels(int number, ModelFields f) {
        if (number == 80) {
            f.str();
            if (f.u8() != 0) {
                send(Msg.of(82));
            }
            return;
        }
        isDue(number >= 90);
        if (number <= 92) {
            takesOpening(number, f);
            return;
        }
        long n = f.u32();
        isDue(n < 16 && channels[(int) n] != null && channels[(int) n].state == ModelChannel.THERE);
        ModelChannel c = channels[(int) n];
        if (number == 93) {
            long more = f.u32();
            f.end();
            isDue(c.window + more <= 0xffffffffL);
            c.window += more;
            pump(c);
        } else if (number <= 95) {
            takeData(c, number, f);
        } else if (number == 98) {
            String kind = f.text();
            takesRequest(c, kind, f.u8() != 0, f);
        } else {
            f.end();
            takeOther(c, number);
        }
    }

    private void takeData(ModelChannel c, int number, ModelFields f) {
        long kind = number == 95 ? f.u32() : 0;
        byte[] data = f.str();
        f.end();
        isDue(!c.endHad && data.length <= c.granted && data.length <= c.told);
        c.granted -= data.length;
        if (data.length > 0) {
            takesInput(c, number, kind, data);
        }
    }

    private void takeOther(ModelChannel c, int number) {
        if (number == 96) {
            c.endHad = true;
            takesEnd(c);
        } else if (number == 97) {
            c.out = new byte[0];
            c.errorsOut = new byte[0];
            if (!c.closeSent) {
                close(c);
            }
            takesClosed(c);
        } else {
            takesAnswer(c, number == 99);
        }
    }

    Msg to(ModelChannel c, int number) {
        return Msg.of(number).u32(c.peer);
    }

    void close(ModelChannel c) {
        send(to(c, 97));
        c.closeSent = true;
    }

    /** Behind something that was read. */
    void looksAtWindow(ModelChannel c) {
        boolean may = c.state == ModelChannel.THERE && !c.closeSent && !c.endHad;
        if (may && c.granted < settings[2] / 2) {
            send(to(c, 93).u32(settings[2] - c.granted));
            c.granted = settings[2];
        }
    }

    /** Sends what may be sent now. */
    void pump(ModelChannel c) {
        if (c.state != ModelChannel.THERE || c.closeSent) {
            return;
        }
        if (c.closing) {
            close(c);
            return;
        }
        for (int n = piece(c, c.out); n > 0; n = piece(c, c.out)) {
            send(to(c, 94).str(Arrays.copyOf(c.out, n)));
            c.window -= n;
            c.out = Arrays.copyOfRange(c.out, n, c.out.length);
        }
        for (int n = piece(c, c.errorsOut); n > 0 && c.out.length == 0; n = piece(c, c.errorsOut)) {
            send(to(c, 95).u32(1).str(Arrays.copyOf(c.errorsOut, n)));
            c.window -= n;
            c.errorsOut = Arrays.copyOfRange(c.errorsOut, n, c.errorsOut.length);
        }
        if (c.ending && !c.endSent && c.out.length + c.errorsOut.length == 0) {
            send(to(c, 96));
            c.endSent = true;
            isEnded(c);
        }
    }

    private static int piece(ModelChannel c, byte[] data) {
        return (int) Math.min(Math.min(data.length, c.window), Math.min(c.greatest, 32768));
    }
}
