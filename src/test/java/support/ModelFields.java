import java.nio.charset.StandardCharsets;
import java.util.Arrays;

/** The fields of a MESSAGE in order; what does not fit in is MALFORMED. */
final class ModelFields {
    final byte[] bytes;
    int at;

    ModelFields(byte[] bytes) {
        this.bytes = bytes;
    }

    private void needs(long n) {
        if (n > bytes.length - at) {
            throw new ModelEnd.Disconnect(2);
        }
    }

    int u8() {
        needs(1);
        at++;
        return bytes[at - 1] & 255;
    }

    long u32() {
        needs(4);
        long v = 0;
        for (int i = 0; i < 4; i++) {
            v = v << 8 | u8();
        }
        return v;
    }

    byte[] raw(long n) {
        needs(n);
        at += (int) n;
        return Arrays.copyOfRange(bytes, at - (int) n, at);
    }

    byte[] str() {
        return raw(u32());
    }

    String text() {
        return new String(str(), StandardCharsets.ISO_8859_1);
    }

    void end() {
        if (at != bytes.length) {
            throw new ModelEnd.Disconnect(2);
        }
    }

    /** The n bytes behind string ssh-ed25519 in a key or a signature, or null: it has another shape. */
    static byte[] shaped(byte[] b, int n) {
        byte[] begin = new Msg().str("ssh-ed25519").u32(n).bytes();
        boolean is = b.length == begin.length + n && Arrays.equals(Arrays.copyOf(b, begin.length), begin);
        return is ? Arrays.copyOfRange(b, begin.length, b.length) : null;
    }
}
