/** Promise 5: the keys 48 and 52, which take signs away. */
final class EditKeysTest {
    private static final Checks CHECKS = new Checks();

    public static void main(String[] args) {
        emptyRest();
        emptyRestRound();
        emptyRestWithoutFields();
        delete();
        deleteInTheRow();
        deleteRoundTheEnd();
        deleteWithoutFields();
        modified();
        whereTypingCantBe();
        numericFieldsToo();
        CHECKS.finish();
    }

    /** On two rows of five; the cells behind the key. */
    private static void cellsBy(int code, int at, int[] form, int... want) {
        Terminal x = Terminal.written(2, 5, form);
        x.cursorTo(at);
        CHECKS.due("key " + code + " at " + at, x.key(code), 1);
        CHECKS.due("cells by key " + code + " at " + at, x.cells(), want);
        CHECKS.due("the cursor by key " + code, x.cursor(), at);
        CHECKS.due("locked by key " + code, x.locked(), false);
    }

    private static void emptyRest() {
        CHECKS.says("48: cells from the cursor to its field's end .. are emptied");
        int[] form = {29, 0, 193, 194, 195, 29, 0, 196, 197};
        cellsBy(48, 1, form, 257, 0, 0, 0, 256, 196, 197, 0, 0, 0);
        cellsBy(48, 2, form, 257, 193, 0, 0, 256, 196, 197, 0, 0, 0);
        cellsBy(48, 3, form, 257, 193, 194, 0, 256, 196, 197, 0, 0, 0);
        cellsBy(48, 6, form, 256, 193, 194, 195, 257, 196, 0, 0, 0, 0);
        cellsBy(48, 3, new int[] {29, 0, 60, 0, 8, 195, 29, 32, 196}, 257, 195, 195, 0, 0, 0, 0, 0, 288, 196);
    }

    private static void emptyRestRound() {
        CHECKS.says("A FIELD is what lies behind an attribute up to the next one, round the end");
        int[] form = {193, 29, 0, 194, 29, 0, 60, 0, 0, 195};
        cellsBy(48, 8, form, 0, 256, 194, 257, 195, 195, 195, 195, 0, 0);
        cellsBy(48, 0, form, 0, 256, 194, 257, 195, 195, 195, 195, 195, 195);
        cellsBy(48, 1, new int[] {29, 0, 60, 0, 0, 195}, 257, 0, 0, 0, 0, 0, 0, 0, 0, 0);
    }

    private static void emptyRestWithoutFields() {
        CHECKS.says("(without fields: the screen's)");
        int[] form = {60, 0, 0, 195};
        cellsBy(48, 7, form, 195, 195, 195, 195, 195, 195, 195, 0, 0, 0);
        cellsBy(48, 9, form, 195, 195, 195, 195, 195, 195, 195, 195, 195, 0);
        cellsBy(48, 0, form, 0, 0, 0, 0, 0, 0, 0, 0, 0, 0);
    }

    private static void delete() {
        CHECKS.says("52: the sign there goes, those behind it .. move up by one, an empty one comes");
        int[] form = {29, 0, 193, 194, 195, 29, 0, 196, 197};
        cellsBy(52, 1, form, 257, 194, 195, 0, 256, 196, 197, 0, 0, 0);
        cellsBy(52, 2, form, 257, 193, 195, 0, 256, 196, 197, 0, 0, 0);
        cellsBy(52, 3, form, 257, 193, 194, 0, 256, 196, 197, 0, 0, 0);
        cellsBy(52, 1, new int[] {29, 0, 0, 194, 0, 195}, 257, 194, 0, 195, 0, 0, 0, 0, 0, 0);
        cellsBy(52, 1, new int[] {29, 0, 193, 29, 0, 194}, 257, 0, 256, 194, 0, 0, 0, 0, 0, 0);
    }

    private static void deleteInTheRow() {
        CHECKS.says("those behind it in the field's row");
        int[] form = {29, 0, 193, 194, 195, 196, 197, 198, 199};
        cellsBy(52, 2, form, 257, 193, 195, 196, 0, 197, 198, 199, 0, 0);
        cellsBy(52, 4, form, 257, 193, 194, 195, 0, 197, 198, 199, 0, 0);
        cellsBy(52, 5, form, 257, 193, 194, 195, 196, 198, 199, 0, 0, 0);
    }

    private static void deleteRoundTheEnd() {
        CHECKS.says("those behind it in the field's row");
        int[] form = {191, 29, 0, 193, 194, 195, 196, 197, 198, 199, 200};
        cellsBy(52, 9, form, 191, 257, 193, 194, 195, 196, 197, 198, 199, 0);
        cellsBy(52, 8, form, 191, 257, 193, 194, 195, 196, 197, 198, 200, 0);
        cellsBy(52, 0, form, 0, 257, 193, 194, 195, 196, 197, 198, 199, 200);
    }

    private static void deleteWithoutFields() {
        CHECKS.says("those behind it in the field's row");
        int[] form = {191, 192, 193, 194, 195, 196, 197, 198, 199, 200};
        cellsBy(52, 6, form, 191, 192, 193, 194, 195, 196, 198, 199, 200, 0);
        cellsBy(52, 0, form, 192, 193, 194, 195, 0, 196, 197, 198, 199, 200);
        cellsBy(52, 4, form, 191, 192, 193, 194, 0, 196, 197, 198, 199, 200);
        Terminal x = Terminal.written(1, 1, 193);
        CHECKS.due("one cell", x.key(52), 1);
        CHECKS.due("it is emptied", x.cells(), 0);
    }

    private static void modified() {
        CHECKS.says("by both the field is modified");
        for (int code : new int[] {48, 52}) {
            Terminal x = Terminal.written(1, 6, 29, 0, 193, 29, 2, 29, 4, 194);
            x.cursorTo(4);
            x.key(code);
            CHECKS.due("the field by key " + code, x.modified(2), true);
            CHECKS.due("its other bits by key " + code, x.field(2, 1), 5);
            CHECKS.due("others by key " + code, x.modified(0) || x.modified(1), false);
            x = Terminal.written(1, 3, 29, 0);
            x.cursorTo(2);
            x.key(code);
            CHECKS.due("an empty one by key " + code, x.modified(0), true);
            x = Terminal.written(1, 4, 193, 29, 0, 194, 29, 0);
            x.key(code);
            CHECKS.due("one round the end by key " + code, x.modified(1), true);
            CHECKS.due("not the other by key " + code, x.modified(0), false);
        }
    }

    private static void whereTypingCantBe() {
        CHECKS.says("where typing can't be, both lock it and answer 0");
        for (int code : new int[] {48, 52}) {
            for (int at : new int[] {0, 1, 2, 4, 5}) {
                Terminal x = Terminal.written(1, 6, 29, 32, 193, 29, 0, 194, 29, 48, 195);
                x.cursorTo(at);
                CHECKS.due("key " + code + " at " + at, x.key(code), 0);
                CHECKS.due("locked by key " + code + " at " + at, x.locked(), true);
                CHECKS.due("cells by key " + code + " at " + at, x.cells(), 288, 193, 256, 194, 304, 195);
                CHECKS.due("the cursor by key " + code + " at " + at, x.cursor(), at);
            }
        }
    }

    private static void numericFieldsToo() {
        CHECKS.says("where typing can't be, both lock it and answer 0");
        for (int code : new int[] {48, 52}) {
            Terminal x = Terminal.written(1, 3, 29, 16, 241);
            x.cursorTo(1);
            CHECKS.due("key " + code + " in a numeric one", x.key(code), 1);
            CHECKS.due("its cells", x.cells(), 273, 0, 0);
        }
    }
}
