/** What a host and a typist do with a screen, in whole streams and rows of keys. */
final class Host {
    static final int ERASE_WRITE = 245;
    static final int ERASE_WRITE_ALL = 126;
    static final int WRITE = 241;
    static final int ERASE_OPEN = 111;
    static final int READ_ALL = 242;
    static final int READ_MODIFIED = 246;
    static final int RESET = 51;

    private Host() {
    }

    /** Sends bytes as a stream of their own, 255 doubled, and answers what its end answers. */
    static int send(BlockScreen x, int... bytes) {
        for (int b : bytes) {
            raw(x, b);
            if (b == 255) {
                raw(x, b);
            }
        }
        return end(x);
    }

    static void raw(BlockScreen x, int b) {
        int answer = x.out((byte) b);
        if (answer != 0) {
            throw new IllegalStateException("byte " + b + " within a stream answered " + answer);
        }
    }

    static int end(BlockScreen x) {
        raw(x, 255);
        return x.out((byte) 239);
    }

    /** A free screen with these bytes written from address 0 on. */
    static BlockScreen written(int rows, int columns, int... bytes) {
        BlockScreen x = new BlockScreen(rows, columns);
        int[] stream = new int[bytes.length + 2];
        stream[0] = ERASE_WRITE_ALL;
        stream[1] = 2;
        System.arraycopy(bytes, 0, stream, 2, bytes.length);
        if (send(x, stream) < 1) {
            throw new IllegalStateException("a test's own screen was rejected");
        }
        return x;
    }

    /** All cells in use, as cell tells them. */
    static int[] cells(BlockScreen x) {
        int[] all = new int[x.count(0) * x.count(1)];
        for (int i = 0; i < all.length; i++) {
            all[i] = x.cell(i);
        }
        return all;
    }

    /** The bytes that wait to be sent, as 0 .. 255. */
    static int[] waiting(BlockScreen x) {
        int[] all = new int[x.inbound()];
        for (int i = 0; i < all.length; i++) {
            all[i] = x.octet(i) & 255;
        }
        return all;
    }

    /** Brings the cursor to an address by a write that frees the keyboard. */
    static void cursorTo(BlockScreen x, int address) {
        if (send(x, WRITE, 2, 17, address / 256, address % 256, 19) != 3) {
            throw new IllegalStateException("the cursor could not be moved to " + address);
        }
    }
}
