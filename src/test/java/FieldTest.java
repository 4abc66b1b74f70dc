/** Promises 9 and 12: field and modified. */
final class FieldTest {
    private static final Checks CHECKS = new Checks();

    public static void main(String[] args) {
        fields();
        oneField();
        wrong();
        modified();
        CHECKS.finish();
    }

    private static void fields() {
        BlockScreen x = Host.written(2, 5, 193, 29, 33, 194, 0, 29, 224, 29, 16, 195, 0, 196);
        fieldIs(x, 0, 1, 33, 2, 1);
        fieldIs(x, 1, 4, 224, 0, 0);
        fieldIs(x, 2, 5, 16, 5, 3);
        CHECKS.due("fields", x.count(2), 3);
    }

    private static void oneField() {
        BlockScreen x = Host.written(2, 3, 193, 194, 29, 255, 195);
        fieldIs(x, 0, 2, 255, 5, 3);
        x = Host.written(1, 1, 29, 4);
        fieldIs(x, 0, 0, 4, 0, 0);
    }

    private static void fieldIs(BlockScreen x, int i, int... want) {
        for (int what = 0; what < 4; what++) {
            CHECKS.due("field(" + i + ", " + what + ")", x.field(i, what), want[what]);
        }
    }

    private static void wrong() {
        BlockScreen x = Host.written(2, 3, 29, 1);
        int[][] calls = {{-1, 0}, {1, 0}, {0, -1}, {0, 4}, {Integer.MAX_VALUE, 2}, {Integer.MIN_VALUE, 2},
            {0, Integer.MAX_VALUE}, {0, Integer.MIN_VALUE}, {1, 3}};
        for (int[] call : calls) {
            CHECKS.due("field(" + call[0] + ", " + call[1] + ")", x.field(call[0], call[1]), BlockScreen.NONE);
        }
        CHECKS.due("field without fields", new BlockScreen(2, 3).field(0, 0), BlockScreen.NONE);
    }

    private static void modified() {
        BlockScreen x = Host.written(1, 6, 29, 0, 193, 29, 33, 194, 29, 254);
        CHECKS.due("not modified", x.modified(0), false);
        CHECKS.due("modified by the host", x.modified(1), true);
        CHECKS.due("254 is not modified", x.modified(2), false);
        CHECKS.due("no such field", x.modified(3), false);
        CHECKS.due("no such field either", x.modified(-1), false);
        CHECKS.due("far off", x.modified(Integer.MAX_VALUE), false);
        CHECKS.due("without fields", new BlockScreen(1, 1).modified(0), false);
        for (int code : new int[] {48, 52}) {
            BlockScreen y = Host.written(1, 6, 29, 0, 193, 29, 2, 194);
            Host.cursorTo(y, 3);
            y.key(code);
            CHECKS.due("modified by key " + code, y.modified(1), true);
            CHECKS.due("with the other bits", y.field(1, 1), 3);
            CHECKS.due("the other not", y.modified(0), false);
        }
        BlockScreen round = Host.written(1, 6, 193, 29, 0, 194, 29, 0, 195);
        round.type(200);
        CHECKS.due("modified round the end", round.modified(1), true);
        CHECKS.due("not the first", round.modified(0), false);
    }
}
