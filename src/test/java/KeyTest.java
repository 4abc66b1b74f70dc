/** Promise 5: key. */
final class KeyTest {
    private static final Checks CHECKS = new Checks();

    public static void main(String[] args) {
        codes();
        sendingKeys();
        clearKey();
        nextField();
        previousField();
        nextRow();
        firstField();
        arrows();
        emptyRest();
        delete();
        editsThatCantBe();
        eraseInput();
        insertAndReset();
        CHECKS.finish();
    }

    private static boolean isKey(int code) {
        return code >= 1 && code <= 5 || code >= 11 && code <= 22 || code >= 40 && code <= 52;
    }

    private static void codes() {
        for (int code = -3; code < 300; code++) {
            BlockScreen locked = new BlockScreen(2, 3);
            int whenLocked = code == 51 ? 1 : isKey(code) ? 0 : BlockScreen.NONE;
            CHECKS.due("locked, key " + code, locked.key(code), whenLocked);
            CHECKS.due("it stays locked but for 51", locked.locked(), code != 51);
            BlockScreen free = Host.written(2, 3);
            CHECKS.due("free, key " + code, free.key(code), isKey(code) ? 1 : BlockScreen.NONE);
        }
        BlockScreen x = Host.written(2, 3, 193);
        CHECKS.due("a far code", x.key(Integer.MIN_VALUE), BlockScreen.NONE);
        CHECKS.due("another", x.key(Integer.MAX_VALUE), BlockScreen.NONE);
        CHECKS.due("they do not lock", x.locked(), false);
    }

    private static void sendingKeys() {
        int[] codes = {1, 11, 12, 13, 14, 15, 16, 17, 18, 19, 20, 21, 22};
        int[] bytes = {125, 241, 242, 243, 244, 245, 246, 247, 248, 249, 122, 123, 124};
        for (int i = 0; i < codes.length; i++) {
            BlockScreen x = Host.written(1, 3, 193);
            x.key(codes[i]);
            CHECKS.due("key " + codes[i] + " sends", Host.waiting(x), bytes[i], 64, 64, 193, 255, 239);
            CHECKS.due("key " + codes[i] + " locks", x.locked(), true);
            CHECKS.due("key " + codes[i] + " is the latest", x.count(6), bytes[i]);
        }
        int[] shortCodes = {2, 3, 4, 5};
        int[] shortBytes = {109, 108, 110, 107};
        for (int i = 0; i < shortCodes.length; i++) {
            BlockScreen x = Host.written(1, 3, 193);
            x.key(shortCodes[i]);
            CHECKS.due("key " + shortCodes[i] + " sends", Host.waiting(x), shortBytes[i], 255, 239);
            CHECKS.due("key " + shortCodes[i] + " locks", x.locked(), true);
            CHECKS.due("key " + shortCodes[i] + " is the latest", x.count(6), shortBytes[i]);
            CHECKS.due("key " + shortCodes[i] + " keeps the cells", x.cell(0), shortCodes[i] == 2 ? 0 : 193);
        }
        BlockScreen x = Host.written(1, 3, 193);
        x.key(1);
        CHECKS.due("a locked key does not send", x.key(3), 0);
        CHECKS.due("so it is not the latest", x.count(6), 125);
    }

    private static void clearKey() {
        BlockScreen x = Host.written(30, 90, 29, 1, 193, 19);
        x.key(50);
        x.key(2);
        CHECKS.due("2 uses the small screen", x.count(0) * 1000 + x.count(1), 24080);
        CHECKS.due("2 empties", Host.cells(x), new int[24 * 80]);
        CHECKS.due("2 brings the cursor to 0", x.cursor(), 0);
        CHECKS.due("2 leaves no fields", x.count(2), 0);
        CHECKS.due("2 leaves insert as it is", x.count(5), 1);
    }

    private static void nextField() {
        int[] form = {29, 32, 193, 29, 0, 194, 29, 48, 195, 29, 16, 29, 0, 196};
        cursorBy(40, form, 0, 3);
        cursorBy(40, form, 2, 3);
        cursorBy(40, form, 3, 8);
        cursorBy(40, form, 6, 8);
        cursorBy(40, form, 7, 8);
        cursorBy(40, form, 8, 3);
        cursorBy(40, form, 9, 3);
        cursorBy(40, new int[] {29, 32, 193}, 4, 0);
        cursorBy(40, new int[] {193}, 4, 0);
        cursorBy(40, new int[] {17, 0, 9, 29, 0}, 4, 0);
        cursorBy(40, new int[] {17, 0, 9, 29, 0, 29, 32}, 4, 0);
    }

    private static void previousField() {
        int[] form = {29, 32, 193, 29, 0, 194, 29, 48, 195, 29, 16, 29, 0, 196};
        cursorBy(41, form, 9, 8);
        cursorBy(41, form, 8, 3);
        cursorBy(41, form, 7, 3);
        cursorBy(41, form, 4, 3);
        cursorBy(41, form, 3, 8);
        cursorBy(41, form, 0, 8);
        cursorBy(41, new int[] {29, 0, 193}, 1, 1);
        cursorBy(41, new int[] {29, 0, 193}, 0, 1);
        cursorBy(41, new int[] {29, 0, 193}, 5, 1);
        cursorBy(41, new int[] {17, 0, 9, 29, 0}, 4, 0);
        cursorBy(41, new int[] {29, 32, 193}, 4, 0);
        cursorBy(41, new int[] {193}, 4, 0);
    }

    private static void nextRow() {
        cursorBy(42, new int[] {193}, 0, 5);
        cursorBy(42, new int[] {193}, 4, 5);
        cursorBy(42, new int[] {193}, 5, 0);
        cursorBy(42, new int[] {193}, 9, 0);
        cursorBy(42, new int[] {29, 0}, 1, 5);
        cursorBy(42, new int[] {29, 0}, 9, 1);
        cursorBy(42, new int[] {29, 32, 17, 0, 6, 29, 32, 29, 16}, 1, 8);
        cursorBy(42, new int[] {29, 32, 29, 0, 17, 0, 4, 29, 32}, 1, 2);
        cursorBy(42, new int[] {29, 32}, 3, 0);
        BlockScreen x = Host.written(3, 1);
        x.key(42);
        CHECKS.due("42 on rows of one", x.cursor(), 1);
    }

    private static void firstField() {
        cursorBy(43, new int[] {29, 32, 29, 0, 29, 0}, 7, 3);
        cursorBy(43, new int[] {29, 0, 17, 0, 9, 29, 0}, 5, 1);
        cursorBy(43, new int[] {193, 17, 0, 9, 29, 0}, 5, 0);
        cursorBy(43, new int[] {17, 0, 3, 29, 0, 17, 0, 9, 29, 0}, 5, 0);
        cursorBy(43, new int[] {29, 32}, 5, 0);
        cursorBy(43, new int[] {193}, 5, 0);
    }

    private static void arrows() {
        cursorBy(44, new int[0], 0, 9);
        cursorBy(44, new int[0], 5, 4);
        cursorBy(45, new int[0], 9, 0);
        cursorBy(45, new int[0], 4, 5);
        cursorBy(46, new int[0], 3, 8);
        cursorBy(46, new int[0], 8, 3);
        cursorBy(47, new int[0], 3, 8);
        cursorBy(47, new int[0], 8, 3);
        cursorBy(45, new int[] {29, 0, 29, 48}, 0, 1);
    }

    /** On two rows of five. */
    private static void cursorBy(int code, int[] form, int from, int want) {
        BlockScreen x = Host.written(2, 5, form);
        Host.cursorTo(x, from);
        CHECKS.due("key " + code + " from " + from, x.key(code), 1);
        CHECKS.due("key " + code + " from " + from + " comes to", x.cursor(), want);
        CHECKS.due("key " + code + " leaves it free", x.locked(), false);
    }

    private static BlockScreen edited(int code, int at, int... form) {
        BlockScreen x = Host.written(2, 5, form);
        Host.cursorTo(x, at);
        CHECKS.due("key " + code + " at " + at, x.key(code), 1);
        CHECKS.due("key " + code + " leaves the cursor", x.cursor(), at);
        return x;
    }

    private static void emptyRest() {
        BlockScreen x = edited(48, 2, 29, 0, 193, 194, 195, 29, 0, 196);
        CHECKS.due("48", Host.cells(x), 256 + 1, 193, 0, 0, 256, 196, 0, 0, 0, 0);
        x = edited(48, 8, 193, 29, 0, 194, 29, 0, 60, 0, 0, 195);
        CHECKS.due("48 round", Host.cells(x), 0, 256, 194, 256 + 1, 195, 195, 195, 195, 0, 0);
        x = edited(48, 7, 60, 0, 0, 195);
        CHECKS.due("48 without fields", Host.cells(x), 195, 195, 195, 195, 195, 195, 195, 0, 0, 0);
    }

    private static void delete() {
        BlockScreen x = edited(52, 1, 29, 0, 193, 194, 195, 29, 0, 196);
        CHECKS.due("52 to the field's end", Host.cells(x), 256 + 1, 194, 195, 0, 256, 196, 0, 0, 0, 0);
        x = edited(52, 2, 29, 0, 193, 194, 195, 196, 197, 198, 199);
        CHECKS.due("52 to the row's end", Host.cells(x), 256 + 1, 193, 195, 196, 0, 197, 198, 199, 0, 0);
        x = edited(52, 6, 191, 192, 193, 194, 195, 196, 197, 198, 199, 200);
        CHECKS.due("52 without fields", Host.cells(x), 191, 192, 193, 194, 195, 196, 198, 199, 200, 0);
        x = edited(52, 9, 191, 29, 0, 193, 194, 195, 196, 197, 198, 199, 200);
        CHECKS.due("52 at the last cell", Host.cells(x), 191, 256 + 1, 193, 194, 195, 196, 197, 198, 199, 0);
        x = edited(52, 1, 29, 0, 0, 194, 0, 195);
        CHECKS.due("52 moves empty ones too", Host.cells(x), 256 + 1, 194, 0, 195, 0, 0, 0, 0, 0, 0);
    }

    private static void editsThatCantBe() {
        for (int code : new int[] {48, 52}) {
            for (int at : new int[] {0, 1, 2}) {
                BlockScreen x = Host.written(2, 5, 29, 32, 193, 29, 0, 194);
                Host.cursorTo(x, at);
                CHECKS.due("key " + code + " can't be at " + at, x.key(code), 0);
                CHECKS.due("key " + code + " locks at " + at, x.locked(), true);
                CHECKS.due("nothing is done", Host.cells(x), 288, 193, 256, 194, 0, 0, 0, 0, 0, 0);
            }
        }
    }

    private static void eraseInput() {
        BlockScreen x = Host.written(2, 5, 193, 29, 33, 194, 29, 1, 195, 29, 17, 196, 197, 198);
        Host.send(x, Host.READ_ALL);
        CHECKS.due("49", x.key(49), 1);
        CHECKS.due("49 empties", Host.cells(x), 0, 256 + 33, 194, 256, 0, 256 + 16, 0, 0, 0, 0);
        CHECKS.due("49 leaves it free", x.locked(), false);
        CHECKS.due("49: what waits goes", x.inbound(), 0);
        CHECKS.due("49: the first cell", x.cursor(), 0);
        x = Host.written(1, 4, 29, 32, 193, 29, 0, 194);
        x.key(49);
        CHECKS.due("49 brings the cursor", x.cursor(), 3);
        x = new BlockScreen(1, 4);
        CHECKS.due("49 locked", x.key(49), 0);
        CHECKS.due("49 stays locked", x.locked(), true);
    }

    private static void insertAndReset() {
        BlockScreen x = Host.written(1, 4, 193);
        x.key(1);
        x.key(51);
        CHECKS.due("51 frees", x.locked(), false);
        CHECKS.due("51 leaves what waits", x.inbound(), 6);
        x.key(50);
        CHECKS.due("50", x.count(5), 1);
        CHECKS.due("50 again", x.key(50), 1);
        CHECKS.due("50 stays on", x.count(5), 1);
        x.key(51);
        CHECKS.due("51 turns it off", x.count(5), 0);
    }
}
