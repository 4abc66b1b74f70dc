/** Promise 6, and KEYBOARD of the terms. */
final class TypeTest {
    private static final Checks CHECKS = new Checks();

    public static void main(String[] args) {
        signs();
        whenLocked();
        others();
        lockedBy();
        intoTheCellAtTheCursor();
        notWhereAnAttributeIs();
        notWhereItIsProtected();
        numeric();
        fieldIsModified();
        cursorGoesOn();
        cursorBehindAnAttribute();
        cursorBehindASkippedOne();
        insert();
        insertIntoAnEmptyOne();
        insertWithoutFields();
        insertRoundTheEnd();
        insertMustHaveAnEmptyOne();
        insertWhatCantBeTyped();
        CHECKS.finish();
    }

    private static void signs() {
        CHECKS.says("A sign (64 .. 254) is typed: 1");
        for (int c = 64; c <= 254; c++) {
            Terminal x = Terminal.written(1, 3);
            CHECKS.due("type " + c, x.type(c), 1);
            CHECKS.due("cells by " + c, x.cells(), c, 0, 0);
            CHECKS.due("locked by " + c, x.locked(), false);
        }
    }

    private static void whenLocked() {
        CHECKS.says("0 when the keyboard is locked, or is by this");
        for (int c = 64; c <= 254; c++) {
            Terminal x = new Terminal(1, 3);
            CHECKS.due("type " + c, x.type(c), 0);
            CHECKS.due("cells by " + c, x.cells(), 0, 0, 0);
            CHECKS.due("cursor by " + c, x.cursor(), 0);
        }
        Terminal x = Terminal.written(1, 3, 29, 0);
        CHECKS.due("by this", x.type(193), 0);
        CHECKS.due("locked", x.locked(), true);
        x.send(241, 0, 17, 0, 1, 19);
        CHECKS.due("locked, where it could be", x.type(193), 0);
    }

    private static void others() {
        CHECKS.says("NONE for others");
        int[] outside = {Integer.MIN_VALUE, -256 + 64, -2, -1, 255, 256, 256 + 193, 1 << 16, Integer.MAX_VALUE};
        for (int c : outside) {
            isNone(c);
        }
        for (int c = 0; c < 64; c++) {
            isNone(c);
        }
    }

    private static void isNone(int c) {
        Terminal x = Terminal.written(1, 3, 29, 32);
        CHECKS.due("type " + c, x.type(c), Terminal.NONE);
        CHECKS.due("cells by " + c, x.cells(), 288, 0, 0);
        CHECKS.due("cursor by " + c, x.cursor(), 0);
        CHECKS.due("locked by " + c, x.locked(), false);
        CHECKS.due("type " + c + " when locked", new Terminal(1, 3).type(c), Terminal.NONE);
    }

    private static void lockedBy() {
        CHECKS.says("KEYBOARD: locked at first, by a key that sends, by a reject, and by what can't be typed");
        Terminal x = new Terminal(2, 3);
        CHECKS.due("at first", x.locked(), true);
        x.key(51);
        x.key(1);
        CHECKS.due("by a key that sends", x.locked(), true);
        x.key(51);
        x.send(0);
        CHECKS.due("by a reject", x.locked(), true);
        x.send(241, 2, 29, 32);
        x.type(193);
        CHECKS.due("by what can't be typed", x.locked(), true);
        x.key(51);
        x.send(242);
        x.key(45);
        x.key(50);
        x.type(300);
        x.send(241, 0);
        CHECKS.due("by nothing else", x.locked(), false);
    }

    private static void intoTheCellAtTheCursor() {
        CHECKS.says("Typing: a sign into the cell at the cursor");
        Terminal x = Terminal.written(1, 5, 29, 0, 193, 194, 29, 2);
        x.cursorTo(2);
        CHECKS.due("type", x.type(200), 1);
        CHECKS.due("cells", x.cells(), 257, 193, 200, 258, 0);
        x = Terminal.written(2, 2, 193, 194, 195, 196);
        x.cursorTo(3);
        x.type(200);
        x.type(201);
        CHECKS.due("the last cell and the first", x.cells(), 201, 194, 195, 200);
    }

    private static void notWhereAnAttributeIs() {
        CHECKS.says("if that is no attribute");
        for (int attribute : new int[] {0, 1, 16, 32, 48}) {
            Terminal x = Terminal.written(1, 4, 193, 29, attribute, 194);
            x.cursorTo(1);
            CHECKS.due("type at attribute " + attribute, x.type(241), 0);
            CHECKS.due("locked", x.locked(), true);
            CHECKS.due("cells", x.cells(), 193, 256 + attribute, 194, 0);
            CHECKS.due("cursor", x.cursor(), 1);
        }
    }

    private static void notWhereItIsProtected() {
        CHECKS.says("and not protected");
        for (int at : new int[] {1, 5, 6}) {
            Terminal x = Terminal.written(1, 7, 29, 32, 193, 29, 0, 194, 29, 48, 195);
            x.cursorTo(at);
            CHECKS.due("type at " + at, x.type(241), 0);
            CHECKS.due("locked at " + at, x.locked(), true);
            CHECKS.due("cells at " + at, x.cells(), 288, 193, 256, 194, 304, 195, 0);
            CHECKS.due("cursor at " + at, x.cursor(), at);
        }
    }

    private static void numeric() {
        CHECKS.says("(numeric ones take 240 .. 249, 75, 96 alone)");
        for (int c = 64; c < 255; c++) {
            boolean taken = c >= 240 && c <= 249 || c == 75 || c == 96;
            Terminal x = Terminal.written(1, 3, 29, 16);
            x.cursorTo(1);
            CHECKS.due("type " + c, x.type(c), taken ? 1 : 0);
            CHECKS.due("locked by " + c, x.locked(), !taken);
            CHECKS.due("modified by " + c, x.modified(0), taken);
            CHECKS.due("cell by " + c, x.cell(1), taken ? c : 0);
            CHECKS.due("cursor by " + c, x.cursor(), taken ? 2 : 1);
        }
    }

    private static void fieldIsModified() {
        CHECKS.says("the field is modified");
        Terminal x = Terminal.written(1, 6, 0, 29, 0, 0, 29, 4);
        x.cursorTo(2);
        x.type(193);
        CHECKS.due("the field", x.modified(0), true);
        CHECKS.due("not the other", x.modified(1), false);
        x.cursorTo(0);
        x.type(193);
        CHECKS.due("one round the end", x.modified(1), true);
        CHECKS.due("its other bits", x.field(1, 1), 5);
        x.cursorTo(0);
        x.type(193);
        CHECKS.due("again", x.modified(1), true);
        CHECKS.due("its other bits again", x.field(1, 1), 5);
    }

    private static void cursorGoesOn() {
        CHECKS.says("the cursor goes on by one");
        cursorAfterTyping(1, 2, 29, 0);
        cursorAfterTyping(7, 0, 0, 29, 0);
        cursorAfterTyping(7, 0, 193);
        cursorAfterTyping(0, 1, 193);
    }

    private static void cursorBehindAnAttribute() {
        CHECKS.says("if an attribute is there, behind it");
        cursorAfterTyping(2, 4, 29, 0, 0, 0, 29, 0);
        cursorAfterTyping(2, 4, 29, 0, 0, 0, 29, 32);
        cursorAfterTyping(1, 3, 29, 0, 0, 29, 16);
        cursorAfterTyping(1, 3, 29, 0, 0, 29, 32, 29, 0);
        cursorAfterTyping(1, 3, 29, 0, 0, 29, 0, 29, 48);
        cursorAfterTyping(7, 1, 29, 32, 0, 29, 0);
        cursorAfterTyping(6, 0, 0, 29, 0, 17, 0, 7, 29, 0);
    }

    private static void cursorBehindASkippedOne() {
        CHECKS.says("if its field is skipped as by key 40 from there");
        cursorAfterTyping(1, 5, 29, 0, 0, 29, 48, 0, 29, 0);
        cursorAfterTyping(1, 4, 29, 0, 0, 29, 48, 29, 0);
        cursorAfterTyping(1, 6, 29, 0, 0, 29, 48, 29, 32, 29, 0, 29, 1);
        cursorAfterTyping(1, 1, 29, 0, 0, 29, 48);
        cursorAfterTyping(7, 3, 29, 48, 0, 29, 0);
        cursorAfterTyping(7, 7, 29, 48, 17, 0, 6, 29, 0);
        cursorAfterTyping(6, 2, 0, 29, 0, 17, 0, 7, 29, 48);
        cursorAfterTyping(0, 0, 0, 29, 48, 17, 0, 6, 29, 32, 29, 0);
    }

    /** Types once on a row of eight. */
    private static void cursorAfterTyping(int at, int want, int... form) {
        Terminal x = Terminal.written(1, 8, form);
        x.cursorTo(at);
        CHECKS.due("type at " + at, x.type(241), 1);
        CHECKS.due("the cursor behind " + at, x.cursor(), want);
    }

    /** A row with the cursor at an address and insert on. */
    private static Terminal inserting(int columns, int at, int... form) {
        Terminal x = Terminal.written(1, columns, form);
        x.cursorTo(at);
        x.key(50);
        return x;
    }

    private static void insert() {
        CHECKS.says("With INSERT on signs from there to the field's end .. move on by one, "
            + "up to the first empty one, which goes");
        Terminal x = inserting(8, 1, 29, 0, 193, 194, 0, 195, 0, 29, 0, 196);
        CHECKS.due("insert", x.type(200), 1);
        CHECKS.due("cells", x.cells(), 257, 200, 193, 194, 195, 0, 256, 196);
        CHECKS.due("the cursor", x.cursor(), 2);
        CHECKS.due("modified", x.modified(0) && !x.modified(1), true);
        CHECKS.due("insert again", x.type(201), 1);
        CHECKS.due("its cells", x.cells(), 257, 200, 201, 193, 194, 195, 256, 196);
        CHECKS.due("insert stays on", x.count(5), 1);
        x = inserting(6, 2, 29, 0, 193, 194, 0, 29, 0, 195);
        x.type(200);
        CHECKS.due("from within", x.cells(), 257, 193, 200, 194, 256, 195);
    }

    private static void insertIntoAnEmptyOne() {
        CHECKS.says("up to the first empty one, which goes");
        Terminal x = inserting(5, 1, 29, 0, 0, 194, 195);
        CHECKS.due("insert", x.type(200), 1);
        CHECKS.due("cells", x.cells(), 257, 200, 194, 195, 0);
        x = inserting(3, 1, 29, 0, 0, 29, 0);
        CHECKS.due("the only one", x.type(200), 1);
        CHECKS.due("its cells", x.cells(), 257, 200, 256);
        CHECKS.due("the cursor goes behind the attribute", x.cursor(), 0);
    }

    private static void insertWithoutFields() {
        CHECKS.says("(with no fields: the screen's)");
        Terminal x = inserting(4, 1, 193, 194, 195);
        CHECKS.due("insert", x.type(200), 1);
        CHECKS.due("cells", x.cells(), 193, 200, 194, 195);
        x = inserting(4, 1, 0, 194, 195, 196);
        CHECKS.due("not round", x.type(200), 0);
        CHECKS.due("its cells", x.cells(), 0, 194, 195, 196);
        x = Terminal.written(2, 2, 193, 194, 195);
        x.key(50);
        CHECKS.due("over the row's end", x.type(200), 1);
        CHECKS.due("cells of both rows", x.cells(), 200, 193, 194, 195);
    }

    private static void insertRoundTheEnd() {
        CHECKS.says("A FIELD is what lies behind an attribute up to the next one, round the end");
        Terminal x = inserting(5, 3, 193, 0, 29, 0, 194, 195);
        CHECKS.due("insert", x.type(200), 1);
        CHECKS.due("cells", x.cells(), 195, 193, 257, 200, 194);
        CHECKS.due("full then", x.type(201), 0);
        x = inserting(5, 0, 193, 29, 32, 194, 29, 0);
        CHECKS.due("the empty one lies ahead of it", x.type(200), 0);
    }

    private static void insertMustHaveAnEmptyOne() {
        CHECKS.says("there must be one");
        Terminal x = inserting(5, 1, 29, 0, 193, 194, 29, 0);
        CHECKS.due("insert", x.type(200), 0);
        CHECKS.due("locked", x.locked(), true);
        CHECKS.due("cells", x.cells(), 256, 193, 194, 256, 0);
        CHECKS.due("the cursor", x.cursor(), 1);
        CHECKS.due("insert stays on", x.count(5), 1);
        x.key(51);
        CHECKS.due("without insert", x.type(200), 1);
        CHECKS.due("its cells", x.cells(), 257, 200, 194, 256, 0);
        x = inserting(5, 2, 29, 0, 0, 194, 29, 0);
        CHECKS.due("one ahead of it is none", x.type(200), 0);
        x = inserting(1, 0, 193);
        CHECKS.due("one full cell", x.type(200), 0);
    }

    private static void insertWhatCantBeTyped() {
        CHECKS.says("numeric ones take 240 .. 249, 75, 96 alone");
        Terminal x = inserting(4, 1, 29, 16, 241, 0);
        CHECKS.due("insert a letter", x.type(200), 0);
        CHECKS.due("cells", x.cells(), 272, 241, 0, 0);
        x = inserting(4, 0, 29, 0, 193);
        CHECKS.due("insert at an attribute", x.type(200), 0);
        CHECKS.due("its cells", x.cells(), 256, 193, 0, 0);
        x = inserting(4, 1, 29, 32, 193);
        CHECKS.due("insert into a protected one", x.type(200), 0);
        CHECKS.due("the protected cells", x.cells(), 288, 193, 0, 0);
    }
}
