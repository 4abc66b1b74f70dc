/** Promise 6: type. */
final class TypeTest {
    private static final Checks CHECKS = new Checks();

    public static void main(String[] args) {
        range();
        typing();
        whereItCantBe();
        numeric();
        cursorBehind();
        insert();
        insertRound();
        CHECKS.finish();
    }

    private static void range() {
        for (int c = -2; c < 260; c++) {
            boolean sign = c >= 64 && c <= 254;
            CHECKS.due("locked, type " + c, new BlockScreen(1, 3).type(c), sign ? 0 : BlockScreen.NONE);
            BlockScreen x = Host.written(1, 3);
            CHECKS.due("type " + c, x.type(c), sign ? 1 : BlockScreen.NONE);
            CHECKS.due("typed " + c, x.cell(0), sign ? c : 0);
            CHECKS.due("type " + c + " leaves it free", x.locked(), false);
        }
        BlockScreen x = Host.written(1, 3);
        CHECKS.due("type far off", x.type(Integer.MIN_VALUE), BlockScreen.NONE);
        CHECKS.due("type far off again", x.type(Integer.MAX_VALUE), BlockScreen.NONE);
    }

    private static void typing() {
        BlockScreen x = Host.written(1, 4, 29, 0, 193, 29, 2);
        Host.cursorTo(x, 1);
        CHECKS.due("type over", x.type(200), 1);
        CHECKS.due("typed over", Host.cells(x), 257, 200, 258, 0);
        CHECKS.due("the field is modified", x.modified(0), true);
        CHECKS.due("the other is not", x.modified(1), false);
        x = Host.written(1, 2);
        x.type(193);
        x.type(194);
        CHECKS.due("the cursor goes round", x.cursor(), 0);
        CHECKS.due("typed without fields", Host.cells(x), 193, 194);
    }

    private static void whereItCantBe() {
        for (int at : new int[] {0, 1, 2, 4, 5}) {
            BlockScreen x = Host.written(1, 6, 29, 32, 193, 29, 0, 194, 29, 48, 195);
            Host.cursorTo(x, at);
            CHECKS.due("type at " + at, x.type(241), 0);
            CHECKS.due("it locks at " + at, x.locked(), true);
            CHECKS.due("nothing is typed at " + at, Host.cells(x), 288, 193, 256, 194, 304, 195);
            CHECKS.due("the cursor stays at " + at, x.cursor(), at);
        }
    }

    private static void numeric() {
        for (int c = 64; c < 255; c++) {
            boolean taken = c >= 240 && c <= 249 || c == 75 || c == 96;
            BlockScreen x = Host.written(1, 3, 29, 16);
            Host.cursorTo(x, 1);
            CHECKS.due("numeric " + c, x.type(c), taken ? 1 : 0);
            CHECKS.due("numeric locks by " + c, x.locked(), !taken);
            CHECKS.due("numeric modified by " + c, x.modified(0), taken);
        }
    }

    private static void cursorBehind() {
        cursorAfterTyping(1, 2, 29, 0, 0, 0, 29, 0);
        cursorAfterTyping(2, 4, 29, 0, 0, 0, 29, 0);
        cursorAfterTyping(2, 4, 29, 0, 0, 0, 29, 32);
        cursorAfterTyping(1, 3, 29, 0, 0, 29, 16);
        cursorAfterTyping(1, 3, 29, 0, 0, 29, 32, 29, 0);
        cursorAfterTyping(1, 5, 29, 0, 0, 29, 48, 0, 29, 0);
        cursorAfterTyping(1, 6, 29, 0, 0, 29, 48, 29, 32, 29, 0, 29, 1);
        cursorAfterTyping(1, 1, 29, 0, 0, 29, 48);
        cursorAfterTyping(7, 0, 0, 29, 0);
        cursorAfterTyping(7, 1, 29, 32, 0, 29, 0);
        cursorAfterTyping(7, 3, 29, 48, 0, 29, 0);
        cursorAfterTyping(7, 7, 29, 48, 17, 0, 6, 29, 0);
    }

    /** Types once on a row of eight. */
    private static void cursorAfterTyping(int at, int want, int... form) {
        BlockScreen x = Host.written(1, 8, form);
        Host.cursorTo(x, at);
        CHECKS.due("type at " + at, x.type(241), 1);
        CHECKS.due("the cursor behind " + at, x.cursor(), want);
    }

    private static void insert() {
        BlockScreen x = Host.written(1, 8, 29, 0, 193, 194, 0, 195, 29, 0, 196);
        Host.cursorTo(x, 1);
        x.key(50);
        CHECKS.due("insert", x.type(200), 1);
        CHECKS.due("inserted up to the empty one", Host.cells(x), 257, 200, 193, 194, 195, 256, 196, 0);
        CHECKS.due("the cursor goes on", x.cursor(), 2);
        CHECKS.due("insert with no empty one", x.type(201), 0);
        CHECKS.due("locks", x.locked(), true);
        CHECKS.due("and does nothing", Host.cells(x), 257, 200, 193, 194, 195, 256, 196, 0);
        CHECKS.due("insert stays on", x.count(5), 1);
        Host.cursorTo(x, 7);
        CHECKS.due("insert into an empty one", x.type(202), 1);
        CHECKS.due("it goes", Host.cells(x), 257, 200, 193, 194, 195, 257, 196, 202);
        x = Host.written(1, 4, 193, 194, 195);
        Host.cursorTo(x, 1);
        x.key(50);
        CHECKS.due("insert without fields", x.type(200), 1);
        CHECKS.due("inserted without fields", Host.cells(x), 193, 200, 194, 195);
        x = Host.written(1, 4, 0, 194, 195, 196);
        Host.cursorTo(x, 1);
        x.key(50);
        CHECKS.due("insert without fields goes not round", x.type(200), 0);
        x = Host.written(1, 4, 29, 16, 241, 0);
        Host.cursorTo(x, 1);
        x.key(50);
        CHECKS.due("insert what a numeric one does not take", x.type(200), 0);
        CHECKS.due("moves nothing", Host.cells(x), 272, 241, 0, 0);
    }

    private static void insertRound() {
        BlockScreen x = Host.written(1, 5, 193, 0, 29, 0, 194, 195);
        Host.cursorTo(x, 3);
        x.key(50);
        CHECKS.due("insert round", x.type(200), 1);
        CHECKS.due("inserted round", Host.cells(x), 195, 193, 257, 200, 194);
        CHECKS.due("full then", x.type(201), 0);
    }
}
