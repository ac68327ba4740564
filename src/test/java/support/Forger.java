import java.util.ArrayList;
import java.util.Arrays;
import java.util.List;

/** Makes MESSAGES that an END of a Model takes, or nearly: as the other END might send them, or an enemy with its keys. */
final class Forger {
    static final byte[] OTHER_HOST = Rig.seed("other host");
    static final byte[] OTHER_IDENTITY = Rig.seed("other identity");

    private final Dice dice;

    Forger(Dice dice) {
        this.dice = dice;
    }

    /** The next packet for an END that is between packets. */
    byte[] packet(ModelEnd e) {
        byte[] payload = spoilt(payload(e).bytes());
        ModelFlow flow = e.inward.copy();
        int padding = flow.leastPadding(payload.length);
        while (dice.oneIn(8) && padding + flow.block() < 256) {
            padding += flow.block();
        }
        if (dice.wrongOneIn(60)) {
            padding = dice.below(8);
        }
        byte[] packet = flow.seal(payload, dice.bytes(padding));
        if (dice.wrongOneIn(100)) {
            packet[dice.below(packet.length)] ^= 1;
        }
        return packet;
    }

    private byte[] spoilt(byte[] payload) {
        if (dice.wrongOneIn(15)) {
            return Arrays.copyOf(payload, 1 + dice.below(payload.length));
        }
        if (dice.wrongOneIn(25)) {
            return Crypto.join(payload, dice.bytes(1 + dice.below(3)));
        }
        if (dice.wrongOneIn(15)) {
            payload[dice.below(payload.length)] ^= (byte) (1 << dice.below(8));
        }
        return payload;
    }

    private Msg payload(ModelEnd e) {
        if (dice.oneIn(12)) {
            return atAnyTime();
        }
        if (e.due == 30) {
            return Msg.of(30).str(dice.wrongOneIn(12) ? new byte[dice.one(31, 32, 32, 33)] : dice.bytes(32));
        }
        if (e.due == 31) {
            return reply(e);
        }
        if (e.due == 21) {
            return Msg.of(21);
        }
        if (e.exchanges == 0 || dice.oneIn(60) || e.sentInit && dice.oneIn(5)) {
            return init();
        }
        if (!e.proven) {
            return e.isClient ? asksClient((ModelClient) e) : asksServer((ModelServer) e);
        }
        return e.isClient ? toClient(e) : toServer(e);
    }

    private Msg atAnyTime() {
        if (dice.wrongOneIn(10)) {
            return Msg.of(1).u32(dice.one(0, 2, 11, -1)).str("bye").str("");
        }
        if (dice.wrongOneIn(4)) {
            return Msg.of(dice.below(256)).raw(dice.bytes(dice.below(5)));
        }
        return switch (dice.below(3)) {
            case 0 -> Msg.of(2).str(dice.bytes(dice.below(30)));
            case 1 -> Msg.of(3).u32(dice.below(100));
            default -> Msg.of(4).u8(dice.below(3)).str("debug").str("");
        };
    }

    Msg init() {
        Msg m = Msg.of(20).raw(dice.bytes(16));
        m.str(dice.one("curve25519-sha256", "other,curve25519-sha256@libssh.org", "curve25519-sha256@libssh.org"));
        m.str(dice.one("ssh-ed25519", "ssh-ed25519", "ssh-rsa,ssh-ed25519"));
        for (int i = 0; i < 2; i++) {
            m.str(dice.wrongOneIn(20) ? "" : dice.one("aes256-ctr,aes128-ctr", "aes128-ctr,aes256-ctr", "x,,aes256-ctr,aes128-ctr"));
        }
        for (int i = 0; i < 2; i++) {
            m.str(dice.one("hmac-sha2-256,hmac-sha2-256-etm@openssh.com", "hmac-sha2-256-etm@openssh.com,hmac-sha2-256"));
        }
        m.str("none").str(dice.wrongOneIn(20) ? "zlib" : "zlib,none");
        return m.str(dice.one("", "en")).str("").u8(dice.one(0, 0, 0, 1, 2)).u32(dice.below(2));
    }

    private Msg reply(ModelEnd e) {
        byte[] secret = dice.bytes(32);
        byte[] seed = dice.wrongOneIn(20) ? OTHER_HOST : Rig.HOST;
        byte[] hostKey = Peer.blob(dice.wrongOneIn(30) ? dice.bytes(dice.one(31, 32)) : Crypto.edPublic(seed));
        byte[] point = dice.wrongOneIn(30) ? new byte[dice.one(31, 32)] : Crypto.x25519Public(secret);
        Msg h = new Msg().str(e.line).str(e.otherLine).str(e.ownInit).str(e.otherInit).str(hostKey).str(e.ownPublic).str(point);
        h.raw(Crypto.mpint(Crypto.x25519(secret, e.ownPublic)));
        byte[] signature = Crypto.edSign(seed, Crypto.sha256(h.bytes()));
        if (dice.wrongOneIn(30)) {
            signature[dice.below(64)] ^= 1;
        }
        return Msg.of(31).str(hostKey).str(point).str(new Msg().str(dice.text("ssh-ed25519")).str(signature).bytes());
    }

    private Msg asksClient(ModelClient e) {
        if (!e.gotService) {
            return Msg.of(6).str(dice.text("ssh-userauth"));
        }
        if (dice.wrongOneIn(20)) {
            return Msg.of(dice.one(5, 6, 50, 80, 90, 60, 51)).str("ssh-userauth");
        }
        if (e.answerDue == 2 && !dice.oneIn(4)) {
            return Msg.of(60).str(dice.text("ssh-ed25519")).str(Peer.blob(Crypto.edPublic(e.askedIdentity)));
        }
        if (dice.oneIn(3)) {
            return Msg.of(52);
        }
        String[] lists = {"publickey,password", "publickey", "password", "x,password", "password,", "password,publickey", "xpassword"};
        return Msg.of(51).str(dice.one(lists)).u8(dice.below(3));
    }

    private Msg asksServer(ModelServer e) {
        if (!e.gaveService || dice.oneIn(8)) {
            return Msg.of(5).str(dice.text("ssh-userauth"));
        }
        if (dice.wrongOneIn(40)) {
            return Msg.of(dice.one(6, 51, 52, 60, 80, 90, 94)).str("ssh-userauth");
        }
        Msg m = Msg.of(50).str(dice.one("al", "al", "bo", "nobody", "")).str(dice.wrongOneIn(40) ? "other" : "ssh-connection");
        byte[] identity = dice.oneIn(4) ? OTHER_IDENTITY : Rig.IDENTITY;
        byte[] key = new Msg().str(dice.text("ssh-ed25519")).str(Crypto.edPublic(identity)).bytes();
        switch (dice.below(6)) {
            case 0:
                return m.str("none");
            case 1:
                return m.str("password").u8(0).str(dice.one("pw0", "pw1", "", "pw"));
            case 2:
                return m.str("password").u8(1).str("pw0").str("new");
            case 3:
                return m.str(dice.one("hostbased", "", "publickeys")).raw(dice.bytes(dice.below(10)));
            case 4:
                return m.str("publickey").u8(dice.wrongOneIn(20) ? 2 : 0).str(dice.text("ssh-ed25519")).str(key);
            default:
                byte[] begin = m.str("publickey").u8(1).str(dice.text("ssh-ed25519")).str(key).bytes();
                byte[] signature = Crypto.edSign(identity, new Msg().str(e.session).raw(begin).bytes());
                signature[dice.below(64)] ^= (byte) (dice.oneIn(6) ? 1 : 0);
                return new Msg().raw(begin).str(new Msg().str(dice.text("ssh-ed25519")).str(signature).bytes());
        }
    }

    private List<ModelChannel> channels(ModelEnd e, int state) {
        List<ModelChannel> all = new ArrayList<>();
        for (ModelChannel c : e.channels) {
            if (c != null && c.state == state) {
                all.add(c);
            }
        }
        return all;
    }

    private Msg toServer(ModelEnd e) {
        List<ModelChannel> there = channels(e, ModelChannel.THERE);
        if (there.isEmpty() || dice.oneIn(6)) {
            return opening();
        }
        ModelChannel c = there.get(dice.below(there.size()));
        if (dice.oneIn(3)) {
            Msg m = Msg.of(98).u32(dice.number(c.number));
            String kind = dice.oneIn(6) ? dice.one("pty-req", "shell", "", "exit-status") : "exec";
            return m.str(kind).u8(dice.below(3)).str(dice.command());
        }
        if (dice.oneIn(30)) {
            return Msg.of(50).str("al").str("ssh-connection").str(dice.one("none", "other"));
        }
        return either(c, dice.below(3));
    }

    private Msg opening() {
        boolean direct = dice.oneIn(2);
        Msg m = Msg.of(90).str(dice.oneIn(12) ? dice.one("x11", "session ") : direct ? "direct-tcpip" : "session");
        m.u32(dice.number(100 + dice.below(4))).u32(dice.one(5000, 5000, dice.below(100), -1));
        m.u32(dice.one(100, 100, dice.below(50), -1));
        return direct ? m.str("host").u32(dice.number(1 + dice.below(5))).str("1.2.3.4").u32(dice.below(70000)) : m;
    }

    private Msg toClient(ModelEnd e) {
        List<ModelChannel> asked = channels(e, ModelChannel.ASKED);
        if (!asked.isEmpty() && dice.oneIn(2)) {
            int n = asked.get(dice.below(asked.size())).number;
            if (dice.oneIn(6)) {
                return Msg.of(92).u32(dice.number(n)).u32(dice.number(1 + dice.below(4))).str("").str("en");
            }
            return Msg.of(91).u32(dice.number(n)).u32(dice.number(dice.below(300))).u32(dice.one(5000, dice.below(100), -1))
                    .u32(dice.one(100, dice.below(50), -1));
        }
        List<ModelChannel> there = channels(e, ModelChannel.THERE);
        if (there.isEmpty() || dice.oneIn(20)) {
            return Msg.of(90).str(dice.one("session", "x11")).u32(dice.number(9)).u32(100).u32(100).raw(dice.bytes(dice.below(9)));
        }
        ModelChannel c = there.get(dice.below(there.size()));
        if (c.requests > 0 && dice.oneIn(2) || dice.wrongOneIn(50)) {
            return Msg.of(dice.one(99, 100)).u32(c.number);
        }
        if (dice.oneIn(8)) {
            return Msg.of(98).u32(c.number).str(dice.one("exit-status", "exit-signal")).u8(dice.below(2)).raw(dice.bytes(4));
        }
        return either(c, dice.one(0, 1, 1, 1, 2));
    }

    /** What may come at both ENDS. */
    private Msg either(ModelChannel c, int kind) {
        long n = dice.number(c.number);
        int most = (int) Math.min(c.granted, c.told);
        int size = dice.wrongOneIn(30) ? most + 1 : dice.oneIn(5) ? most : Math.min(most, dice.below(60));
        switch (dice.below(12)) {
            case 0, 1, 2:
                return Msg.of(93).u32(n).u32(dice.wrongOneIn(30) ? -1 : dice.below(3000));
            case 3:
                return Msg.of(80).str("keepalive").u8(dice.below(3)).raw(dice.bytes(dice.below(8)));
            case 4:
                return dice.oneIn(2) ? Msg.of(96).u32(n) : Msg.of(95).u32(n).u32(kind).str(dice.bytes(size));
            case 5:
                return dice.oneIn(2) ? Msg.of(97).u32(n) : Msg.of(95).u32(n).u32(kind).str(dice.bytes(size));
            case 6:
                return dice.wrongOneIn(5) ? Msg.of(dice.one(81, 82, 5, 6, 52, 60, 21, 30, 31)) : Msg.of(93).u32(n).u32(9);
            case 7, 8:
                return Msg.of(95).u32(n).u32(kind).str(dice.bytes(size));
            default:
                return Msg.of(94).u32(n).str(dice.bytes(size));
        }
    }
}
