import java.util.Arrays;

/** Bytes in order, put at the end and taken from the front. */
final class ModelWire {
    static final int ROOM = 131072;

    int size;
    private byte[] data = new byte[2 * ROOM];
    private int from;

    void put(byte[] b) {
        if (from + size + b.length > data.length) {
            System.arraycopy(data, from, data, 0, size);
            from = 0;
        }
        System.arraycopy(b, 0, data, from + size, b.length);
        size += b.length;
    }

    boolean hasRoom(int n) {
        return size + n <= ROOM;
    }

    int take() {
        size--;
        from++;
        return data[from - 1] & 255;
    }

    int at(int i) {
        return data[from + i] & 255;
    }

    void flip(int i, int with) {
        data[from + i] ^= (byte) with;
    }

    void clear() {
        size = 0;
        from = 0;
    }

    byte[] all() {
        return Arrays.copyOfRange(data, from, from + size);
    }
}
