/** Promise 5: which codes are keys, when they are refused, and the keys that send. */
final class KeyTest {
    private static final Checks CHECKS = new Checks();
    private static final int[] LONG_CODES = {1, 11, 12, 13, 14, 15, 16, 17, 18, 19, 20, 21, 22};
    private static final int[] LONG_BYTES = {125, 241, 242, 243, 244, 245, 246, 247, 248, 249, 122, 123, 124};
    private static final int[] SHORT_CODES = {2, 3, 4, 5};
    private static final int[] SHORT_BYTES = {109, 108, 110, 107};

    public static void main(String[] args) {
        done();
        refused();
        others();
        othersFarOff();
        sendingKeys();
        shortKeys();
        clearKey();
        allLockIt();
        theLatestCounts();
        insertOn();
        insertOff();
        CHECKS.finish();
    }

    private static boolean isKey(int code) {
        return code >= 1 && code <= 5 || code >= 11 && code <= 22 || code >= 40 && code <= 52;
    }

    private static void done() {
        CHECKS.says("A key: 1 done");
        for (int code = 0; code < 60; code++) {
            if (isKey(code)) {
                CHECKS.due("key " + code, Terminal.written(2, 3).key(code), 1);
            }
        }
    }

    private static void refused() {
        CHECKS.says("0 the keyboard is locked (but 51)");
        for (int code = 0; code < 60; code++) {
            if (!isKey(code)) {
                continue;
            }
            Terminal x = Terminal.written(2, 4, 29, 1, 193, 194, 29, 1, 195);
            x.cursorTo(2);
            x.key(1);
            CHECKS.due("key " + code, x.key(code), code == 51 ? 1 : 0);
            CHECKS.due("key " + code + ": locked", x.locked(), code != 51);
            CHECKS.due("key " + code + ": cursor", x.cursor(), 2);
            CHECKS.due("key " + code + ": cells", x.cells(), 257, 193, 194, 257, 195, 0, 0, 0);
            CHECKS.due("key " + code + ": inbound", x.inbound(), 14);
            CHECKS.due("key " + code + ": latest", x.count(6), 125);
            CHECKS.due("key " + code + ": insert", x.count(5), 0);
        }
    }

    private static void others() {
        CHECKS.says("NONE, doing nothing, for others");
        for (int code = -5; code < 300; code++) {
            if (isKey(code)) {
                continue;
            }
            Terminal x = Terminal.written(1, 4, 29, 1, 193);
            x.cursorTo(1);
            CHECKS.due("key " + code, x.key(code), Terminal.NONE);
            CHECKS.due("key " + code + ": locked", x.locked(), false);
            CHECKS.due("key " + code + ": cursor", x.cursor(), 1);
            CHECKS.due("key " + code + ": cells", x.cells(), 257, 193, 0, 0);
            CHECKS.due("key " + code + ": inbound", x.inbound(), 0);
            CHECKS.due("key " + code + ": latest", x.count(6), 96);
            CHECKS.due("key " + code + " when locked", new Terminal(1, 4).key(code), Terminal.NONE);
        }
    }

    private static void othersFarOff() {
        CHECKS.says("NONE, doing nothing, for others");
        for (int code : new int[] {Integer.MIN_VALUE, Integer.MAX_VALUE, 256 + 1, 256 + 51, (1 << 16) + 51}) {
            Terminal x = Terminal.written(1, 4);
            CHECKS.due("key " + code, x.key(code), Terminal.NONE);
            CHECKS.due("key " + code + ": locked", x.locked(), false);
        }
    }

    private static void sendingKeys() {
        CHECKS.says("1 sends with 125, 11 .. 22 with 241 .. 249, 122, 123, 124: what is modified");
        for (int i = 0; i < LONG_CODES.length; i++) {
            Terminal x = Terminal.written(1, 4, 29, 1, 193, 29, 0, 194);
            CHECKS.due("key " + LONG_CODES[i], x.key(LONG_CODES[i]), 1);
            CHECKS.due("sent by " + LONG_CODES[i], x.waiting(),
                LONG_BYTES[i], 64, 64, 17, 64, 65, 193, 255, 239);
            CHECKS.due("latest by " + LONG_CODES[i], x.count(6), LONG_BYTES[i]);
            CHECKS.due("cells by " + LONG_CODES[i], x.cells(), 257, 193, 256, 194);
        }
    }

    private static void shortKeys() {
        CHECKS.says("3 .. 5 with 108, 110, 107: shortly");
        for (int i = 1; i < SHORT_CODES.length; i++) {
            Terminal x = Terminal.written(1, 4, 29, 1, 193, 29, 0, 194);
            x.cursorTo(1);
            CHECKS.due("key " + SHORT_CODES[i], x.key(SHORT_CODES[i]), 1);
            CHECKS.due("sent by " + SHORT_CODES[i], x.waiting(), SHORT_BYTES[i], 255, 239);
            CHECKS.due("latest by " + SHORT_CODES[i], x.count(6), SHORT_BYTES[i]);
            CHECKS.due("cells by " + SHORT_CODES[i], x.cells(), 257, 193, 256, 194);
            CHECKS.due("cursor by " + SHORT_CODES[i], x.cursor(), 1);
        }
    }

    private static void clearKey() {
        CHECKS.says("2 with 109 (all cells empty, the small screen in use, cursor 0)");
        Terminal x = Terminal.written(30, 90, 29, 1, 193, 19, 17, 10, 139, 195);
        CHECKS.due("key 2", x.key(2), 1);
        CHECKS.due("sent", x.waiting(), 109, 255, 239);
        CHECKS.due("latest", x.count(6), 109);
        CHECKS.due("rows", x.count(0), 24);
        CHECKS.due("columns", x.count(1), 80);
        CHECKS.due("cursor", x.cursor(), 0);
        CHECKS.due("fields", x.count(2), 0);
        CHECKS.due("empty", x.isEmptied(), true);
        x = Terminal.written(2, 3, 29, 1, 193, 194, 195, 196, 197);
        x.key(2);
        CHECKS.due("cells of a small one", x.cells(), 0, 0, 0, 0, 0, 0);
        x = new Terminal(2, 3);
        x.send(241, 0, 193);
        CHECKS.due("locked", x.key(2), 0);
        CHECKS.due("locked: cells", x.cells(), 193, 0, 0, 0, 0, 0);
    }

    private static void allLockIt() {
        CHECKS.says("all lock it");
        for (int code : LONG_CODES) {
            locksIt(code);
        }
        for (int code : SHORT_CODES) {
            locksIt(code);
        }
    }

    private static void locksIt(int code) {
        Terminal x = Terminal.written(1, 3);
        x.key(code);
        CHECKS.due("locked by " + code, x.locked(), true);
        CHECKS.due("a key behind " + code, x.key(45), 0);
        CHECKS.due("typing behind " + code, x.type(193), 0);
    }

    private static void theLatestCounts() {
        CHECKS.says("6 with what the latest key that sends does so");
        Terminal x = Terminal.written(1, 3, 193);
        x.key(1);
        x.key(3);
        CHECKS.due("a refused one is none", x.count(6), 125);
        CHECKS.due("what waits stays", x.waiting(), 125, 64, 64, 193, 255, 239);
        x.key(51);
        CHECKS.due("51 leaves what waits", x.inbound(), 6);
        x.key(12);
        CHECKS.due("another", x.waiting(), 242, 64, 64, 193, 255, 239);
        CHECKS.due("its byte", x.count(6), 242);
    }

    private static void insertOn() {
        CHECKS.says("50: insert is on");
        Terminal x = Terminal.written(1, 3, 193);
        CHECKS.due("off at first", x.count(5), 0);
        CHECKS.due("50", x.key(50), 1);
        CHECKS.due("on", x.count(5), 1);
        CHECKS.due("50 again", x.key(50), 1);
        CHECKS.due("on still", x.count(5), 1);
        x.type(194);
        x.send(241, 2);
        x.key(49);
        x.key(2);
        CHECKS.due("on behind all else", x.count(5), 1);
    }

    private static void insertOff() {
        CHECKS.says("51: off, the keyboard is free");
        Terminal x = Terminal.written(1, 3, 193);
        x.key(50);
        CHECKS.due("51", x.key(51), 1);
        CHECKS.due("off", x.count(5), 0);
        CHECKS.due("free", x.locked(), false);
        x.key(50);
        x.key(1);
        CHECKS.due("51 when locked", x.key(51), 1);
        CHECKS.due("off then", x.count(5), 0);
        CHECKS.due("free then", x.locked(), false);
        x = new Terminal(1, 3);
        CHECKS.due("51 at first", x.key(51), 1);
        CHECKS.due("free at once", x.locked(), false);
        x.send(1);
        x.key(51);
        CHECKS.due("free behind a reject", x.locked(), false);
        CHECKS.due("rejects stay", x.count(4), 1);
        x.type(193);
        CHECKS.due("typing replaces", x.cells(), 193, 0, 0);
    }
}
