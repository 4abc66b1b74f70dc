/**
 * A screen under test with its host and its typist. It refuses to make more calls than the document promises
 * anything about, so that no test rests on an answer that is free.
 */
final class Terminal {
    static final int NONE = BlockScreen.NONE;
    static final int MOST_CALLS = 512;

    static final int ERASE_WRITE = 245;
    static final int ERASE_WRITE_ALL = 126;
    static final int WRITE = 241;
    static final int ERASE_OPEN = 111;
    static final int READ_ALL = 242;
    static final int READ_MODIFIED = 246;
    static final int READ_MODIFIED_TOO = 110;

    private final BlockScreen screen;
    private int calls = 0;

    Terminal(int rows, int columns) {
        screen = new BlockScreen(rows, columns);
    }

    /** A free screen, all of it in use, with these bytes written from address 0 on. */
    static Terminal written(int rows, int columns, int... bytes) {
        Terminal x = new Terminal(rows, columns);
        if (x.sendWith(ERASE_WRITE_ALL, 2, bytes) < 1) {
            throw new IllegalStateException("a test's own screen was rejected");
        }
        return x;
    }

    private BlockScreen used() {
        calls++;
        if (calls > MOST_CALLS) {
            throw new IllegalStateException("a test makes more calls than the document promises");
        }
        return screen;
    }

    int callsLeft() {
        return MOST_CALLS - calls;
    }

    int out(int b) {
        return used().out((byte) b);
    }

    int sign(int row, int column) {
        return used().sign(row, column);
    }

    int attribute(int row, int column) {
        return used().attribute(row, column);
    }

    int key(int code) {
        return used().key(code);
    }

    int type(int c) {
        return used().type(c);
    }

    int inbound() {
        return used().inbound();
    }

    byte octet(int i) {
        return used().octet(i);
    }

    int field(int i, int what) {
        return used().field(i, what);
    }

    int cursor() {
        return used().cursor();
    }

    boolean locked() {
        return used().locked();
    }

    boolean modified(int field) {
        return used().modified(field);
    }

    int cell(int address) {
        return used().cell(address);
    }

    int count(int what) {
        return used().count(what);
    }

    boolean octetThrows(int i) {
        try {
            octet(i);
            return false;
        } catch (ArrayIndexOutOfBoundsException e) {
            return true;
        }
    }

    boolean cellThrows(int address) {
        try {
            cell(address);
            return false;
        } catch (ArrayIndexOutOfBoundsException e) {
            return true;
        }
    }

    /** Bytes within a stream, as they are. */
    void raw(int... bytes) {
        for (int b : bytes) {
            int answer = out(b);
            if (answer != 0) {
                throw new IllegalStateException("byte " + b + " within a stream answered " + answer);
            }
        }
    }

    int end() {
        raw(255);
        return out(239);
    }

    /** Bytes within a stream, 255 doubled. */
    void bytes(int... bytes) {
        for (int b : bytes) {
            raw(b);
            if (b == 255) {
                raw(b);
            }
        }
    }

    /** A whole stream; answers what its end answers. */
    int send(int... bytes) {
        bytes(bytes);
        return end();
    }

    int sendWith(int command, int control, int... rest) {
        bytes(command, control);
        return send(rest);
    }

    /** Brings the cursor to an address by a write that frees the keyboard. */
    void cursorTo(int address) {
        if (send(WRITE, 2, 17, address / 256, address % 256, 19) != 3) {
            throw new IllegalStateException("the cursor could not be moved to " + address);
        }
    }

    /** All cells in use, as cell tells them. */
    int[] cells() {
        int[] all = new int[count(0) * count(1)];
        for (int i = 0; i < all.length; i++) {
            all[i] = cell(i);
        }
        return all;
    }

    /** The bytes that wait to be sent, as 0 .. 255. */
    int[] waiting() {
        int[] all = new int[inbound()];
        for (int i = 0; i < all.length; i++) {
            all[i] = octet(i) & 255;
        }
        return all;
    }

    /** Whether no cell has a sign or an attribute; a field over all of them tells it in a few calls, and stays. */
    boolean isEmptied() {
        boolean noFields = count(2) == 0 && cell(0) == 0;
        send(WRITE, 0, 17, 0, 0, 29, 0);
        return noFields && field(0, 3) == 0;
    }
}
