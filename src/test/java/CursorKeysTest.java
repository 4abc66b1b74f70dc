/** Promise 5: the keys 40 .. 47, which move the cursor. */
final class CursorKeysTest {
    private static final Checks CHECKS = new Checks();

    /** At 0 a protected field, at 2 an open one, at 4 a skipped one, at 6 an open one without cells, at 7 an open. */
    private static final int[] FORM = {29, 32, 193, 29, 0, 194, 29, 48, 195, 29, 16, 29, 0, 196};

    public static void main(String[] args) {
        nextField();
        nextFieldRound();
        nextFieldWithout();
        previousField();
        previousFieldRound();
        previousFieldWithout();
        nextRow();
        nextRowRound();
        nextRowWithout();
        firstField();
        firstFieldWithout();
        arrows();
        arrowsRound();
        arrowsOverAttributes();
        nothingElseChanges();
        CHECKS.finish();
    }

    /** On two rows of five. */
    private static void cursorBy(int code, int from, int want, int... form) {
        Terminal x = Terminal.written(2, 5, form);
        x.cursorTo(from);
        CHECKS.due("key " + code + " from " + from, x.key(code), 1);
        CHECKS.due("the cursor by key " + code + " from " + from, x.cursor(), want);
    }

    private static void nextField() {
        CHECKS.says("40: the cursor goes behind the first attribute from it on .. that is not protected "
            + "and has no attribute behind it");
        cursorBy(40, 0, 3, FORM);
        cursorBy(40, 1, 3, FORM);
        cursorBy(40, 2, 3, FORM);
        cursorBy(40, 3, 8, FORM);
        cursorBy(40, 4, 8, FORM);
        cursorBy(40, 6, 8, FORM);
        cursorBy(40, 7, 8, FORM);
        cursorBy(40, 0, 1, 29, 255 - 32, 193);
    }

    private static void nextFieldRound() {
        CHECKS.says("(round)");
        cursorBy(40, 8, 3, FORM);
        cursorBy(40, 9, 3, FORM);
        cursorBy(40, 4, 0, 17, 0, 9, 29, 0);
        cursorBy(40, 9, 0, 17, 0, 9, 29, 0);
        cursorBy(40, 0, 0, 17, 0, 9, 29, 0);
        cursorBy(40, 1, 1, 29, 0);
        cursorBy(40, 3, 3, 193, 194, 29, 0, 195);
        cursorBy(40, 4, 3, 29, 32, 194, 29, 0, 195, 17, 0, 9, 29, 0);
    }

    private static void nextFieldWithout() {
        CHECKS.says("(0 without)");
        cursorBy(40, 4, 0, 29, 32, 193);
        cursorBy(40, 4, 0, 29, 48, 193, 29, 33);
        cursorBy(40, 4, 0, 193);
        cursorBy(40, 4, 0, 29, 0, 29, 32);
        cursorBy(40, 5, 0, 17, 0, 9, 29, 0, 29, 32);
        Terminal x = Terminal.written(1, 1, 29, 0);
        CHECKS.due("an attribute behind itself", x.key(40), 1);
        CHECKS.due("its cursor", x.cursor(), 0);
    }

    private static void previousField() {
        CHECKS.says("41: to the first cell ahead of it .. that lies behind such an attribute");
        cursorBy(41, 9, 8, FORM);
        cursorBy(41, 8, 3, FORM);
        cursorBy(41, 7, 3, FORM);
        cursorBy(41, 5, 3, FORM);
        cursorBy(41, 4, 3, FORM);
        cursorBy(41, 5, 1, 29, 0, 193);
        cursorBy(41, 2, 1, 29, 0, 193);
        cursorBy(41, 5, 0, 193, 17, 0, 9, 29, 0);
    }

    private static void previousFieldRound() {
        CHECKS.says("(round)");
        cursorBy(41, 3, 8, FORM);
        cursorBy(41, 2, 8, FORM);
        cursorBy(41, 0, 8, FORM);
        cursorBy(41, 0, 1, 29, 0, 193);
        cursorBy(41, 1, 1, 29, 0, 193);
        cursorBy(41, 0, 0, 17, 0, 9, 29, 0);
        cursorBy(41, 0, 9, 193, 17, 0, 8, 29, 0);
    }

    private static void previousFieldWithout() {
        CHECKS.says("(0 without)");
        cursorBy(41, 4, 0, 29, 32, 193);
        cursorBy(41, 4, 0, 29, 48, 193, 29, 33);
        cursorBy(41, 4, 0, 193);
        cursorBy(41, 4, 0, 29, 0, 29, 32);
    }

    private static void nextRow() {
        CHECKS.says("42: to the first cell that may be typed in from the next row's beginning on");
        cursorBy(42, 0, 5, 193);
        cursorBy(42, 2, 5, 193);
        cursorBy(42, 4, 5, 193);
        cursorBy(42, 1, 5, 29, 0);
        cursorBy(42, 1, 8, 29, 32, 17, 0, 6, 29, 32, 29, 16);
        cursorBy(42, 1, 6, 29, 0, 17, 0, 5, 29, 0);
        cursorBy(42, 1, 7, 29, 0, 17, 0, 5, 29, 0, 29, 1);
        cursorBy(42, 1, 5, 17, 0, 4, 29, 0);
        Terminal x = Terminal.written(3, 1);
        x.key(42);
        CHECKS.due("rows of one", x.cursor(), 1);
    }

    private static void nextRowRound() {
        CHECKS.says("the one behind the last is the first");
        cursorBy(42, 5, 0, 193);
        cursorBy(42, 9, 0, 193);
        cursorBy(42, 9, 1, 29, 0);
        cursorBy(42, 1, 2, 29, 32, 29, 0, 17, 0, 4, 29, 32);
        cursorBy(42, 9, 7, 29, 32, 17, 0, 6, 29, 0);
        Terminal x = Terminal.written(1, 4, 193);
        x.cursorTo(2);
        x.key(42);
        CHECKS.due("one row", x.cursor(), 0);
    }

    private static void nextRowWithout() {
        CHECKS.says("(0 without)");
        cursorBy(42, 3, 0, 29, 32);
        cursorBy(42, 7, 0, 29, 32, 193, 29, 0, 29, 49);
    }

    private static void firstField() {
        CHECKS.says("43: as 40, from the last cell on");
        cursorBy(43, 7, 3, FORM);
        cursorBy(43, 3, 3, FORM);
        cursorBy(43, 7, 3, 29, 32, 29, 0, 29, 0);
        cursorBy(43, 5, 1, 29, 0, 17, 0, 9, 29, 0);
        cursorBy(43, 5, 0, 193, 17, 0, 9, 29, 0);
        cursorBy(43, 5, 0, 17, 0, 3, 29, 0, 17, 0, 9, 29, 0);
        cursorBy(43, 1, 9, 17, 0, 8, 29, 0);
        cursorBy(43, 5, 1, 29, 0, 17, 0, 8, 29, 0);
    }

    private static void firstFieldWithout() {
        CHECKS.says("(0 without)");
        cursorBy(43, 5, 0, 29, 32);
        cursorBy(43, 5, 0, 193);
        cursorBy(43, 5, 0, 29, 0, 29, 32);
    }

    private static void arrows() {
        CHECKS.says("44 .. 47: left, right, up, down");
        cursorBy(44, 6, 5);
        cursorBy(44, 5, 4);
        cursorBy(45, 3, 4);
        cursorBy(45, 4, 5);
        cursorBy(46, 8, 3);
        cursorBy(46, 5, 0);
        cursorBy(47, 3, 8);
        cursorBy(47, 4, 9);
    }

    private static void arrowsRound() {
        CHECKS.says("round");
        cursorBy(44, 0, 9);
        cursorBy(45, 9, 0);
        cursorBy(46, 0, 5);
        cursorBy(46, 4, 9);
        cursorBy(47, 5, 0);
        cursorBy(47, 9, 4);
        Terminal x = Terminal.written(1, 3);
        x.cursorTo(2);
        x.key(46);
        CHECKS.due("up in one row", x.cursor(), 2);
        x.key(47);
        CHECKS.due("down in one row", x.cursor(), 2);
        x = Terminal.written(3, 1);
        x.key(44);
        CHECKS.due("left in one column", x.cursor(), 2);
        x.key(45);
        CHECKS.due("right in one column", x.cursor(), 0);
    }

    private static void arrowsOverAttributes() {
        CHECKS.says("44 .. 47: left, right, up, down");
        cursorBy(45, 0, 1, 29, 0, 29, 48);
        cursorBy(44, 2, 1, 29, 32, 29, 48);
        cursorBy(46, 6, 1, 29, 32, 29, 48);
        cursorBy(47, 6, 1, 29, 32, 29, 48);
    }

    private static void nothingElseChanges() {
        CHECKS.says("A key: 1 done");
        for (int code = 40; code <= 47; code++) {
            Terminal x = Terminal.written(2, 5, FORM);
            x.send(246);
            x.key(code);
            CHECKS.due("key " + code + ": cells", x.cells(), 288, 193, 256, 194, 304, 195, 272, 256, 196, 0);
            CHECKS.due("key " + code + ": locked", x.locked(), false);
            CHECKS.due("key " + code + ": inbound", x.inbound(), 5);
            CHECKS.due("key " + code + ": latest", x.count(6), 96);
        }
    }
}
