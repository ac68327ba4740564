import java.io.ByteArrayOutputStream;
import java.nio.charset.StandardCharsets;
import java.util.Arrays;

/** Writes the fields of a MESSAGE, and takes them from one. */
final class Msg {
    private final ByteArrayOutputStream out = new ByteArrayOutputStream();
    private byte[] in = new byte[0];
    private int at;

    static Msg of(int number) {
        return new Msg().u8(number);
    }

    static Msg from(byte[] bytes) {
        Msg m = new Msg();
        m.in = bytes;
        return m;
    }

    Msg u8(int v) {
        out.write(v);
        return this;
    }

    Msg u32(long v) {
        for (int shift = 24; shift >= 0; shift -= 8) {
            out.write((int) (v >>> shift));
        }
        return this;
    }

    Msg raw(byte[] b) {
        out.write(b, 0, b.length);
        return this;
    }

    Msg str(byte[] b) {
        return u32(b.length).raw(b);
    }

    Msg str(String s) {
        return str(s.getBytes(StandardCharsets.ISO_8859_1));
    }

    byte[] bytes() {
        return out.toByteArray();
    }

    int takeByte() {
        at++;
        return in[at - 1] & 255;
    }

    long takeInt() {
        long v = 0;
        for (int i = 0; i < 4; i++) {
            v = v << 8 | takeByte();
        }
        return v;
    }

    byte[] takeStr() {
        int n = (int) takeInt();
        at += n;
        return Arrays.copyOfRange(in, at - n, at);
    }

    String takeText() {
        return new String(takeStr(), StandardCharsets.ISO_8859_1);
    }

    byte[] takeRaw(int n) {
        at += n;
        return Arrays.copyOfRange(in, at - n, at);
    }

    int left() {
        return in.length - at;
    }
}
