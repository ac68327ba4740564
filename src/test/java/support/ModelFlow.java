import java.math.BigInteger;
import java.util.Arrays;
import javax.crypto.Cipher;

/** One direction of packets of a Model, with its keys. */
final class ModelFlow {
    long number;
    long bytes;
    int cipher;
    int mac;
    private byte[] key;
    private byte[] iv;
    private byte[] macKey;
    private Cipher stream;
    private long blocks;

    static ModelFlow with(int cipher, int mac, byte[] iv, byte[] key, byte[] macKey) {
        ModelFlow f = new ModelFlow();
        f.cipher = cipher;
        f.mac = mac;
        f.iv = Arrays.copyOf(iv, 16);
        f.key = Arrays.copyOf(key, cipher == 1 ? 16 : 32);
        f.macKey = macKey;
        f.stream = Crypto.counterMode(f.key, f.iv);
        return f;
    }

    /** A flow that goes on from here by itself: what a forger of packets has. */
    ModelFlow copy() {
        ModelFlow f = new ModelFlow();
        f.number = number;
        if (stream == null) {
            return f;
        }
        BigInteger counter = new BigInteger(1, iv).add(BigInteger.valueOf(blocks)).mod(BigInteger.ONE.shiftLeft(128));
        byte[] digits = counter.toByteArray();
        byte[] now = new byte[16];
        for (int i = 0; i < 16 && i < digits.length; i++) {
            now[15 - i] = digits[digits.length - 1 - i];
        }
        f = with(cipher, mac, now, key, macKey);
        f.number = number;
        return f;
    }

    boolean isEtm() {
        return mac == 2;
    }

    int block() {
        return cipher == 0 ? 8 : 16;
    }

    int headSize() {
        return isEtm() ? 4 : block();
    }

    int tagSize() {
        return mac == 0 ? 0 : 32;
    }

    byte[] crypt(byte[] b) {
        if (stream == null || b.length == 0) {
            return b;
        }
        blocks += b.length / 16;
        return stream.update(b);
    }

    byte[] tag(byte[] packet) {
        return Crypto.hmac(macKey, new Msg().u32(number).bytes(), packet);
    }

    int leastPadding(int payload) {
        int p = 4;
        while ((1 + payload + p + (isEtm() ? 0 : 4)) % block() != 0) {
            p++;
        }
        return p;
    }

    byte[] seal(byte[] payload, byte[] padding) {
        byte[] plain = new Msg().u32(1 + payload.length + padding.length).u8(padding.length).raw(payload).raw(padding)
                .bytes();
        byte[] sealed = plain;
        if (mac == 1) {
            byte[] tag = tag(plain);
            sealed = Crypto.join(crypt(plain), tag);
        } else if (mac == 2) {
            byte[] open = Arrays.copyOf(plain, 4);
            byte[] both = Crypto.join(open, crypt(Arrays.copyOfRange(plain, 4, plain.length)));
            sealed = Crypto.join(both, tag(both));
        }
        number++;
        return sealed;
    }
}
