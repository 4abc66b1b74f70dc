/** Promise 2: the signs and orders of a write. */
final class OrdersTest {
    private static final Checks CHECKS = new Checks();

    public static void main(String[] args) {
        signs();
        unknownOrders();
        addresses();
        startField();
        startFieldByPairs();
        changeAttribute();
        cursorOrder();
        tabEmpties();
        tabStops();
        repeat();
        erase();
        signOrder();
        lackingBytes();
        CHECKS.finish();
    }

    private static void signs() {
        BlockScreen x = Host.written(1, 3, 64, 255, 193, 19);
        CHECKS.due("signs", Host.cells(x), 64, 255, 193);
        CHECKS.due("the place goes round", x.cursor(), 0);
        x = Host.written(1, 3, 29, 0, 29, 1, 194);
        Host.send(x, Host.WRITE, 0, 17, 0, 0, 193, 0);
        CHECKS.due("a sign or an empty one in an attribute's place", Host.cells(x), 193, 0, 194);
        CHECKS.due("that is none any more", x.count(2), 0);
        Host.send(x, Host.WRITE, 0, 17, 0, 1, 19);
        Host.send(x, Host.WRITE, 0, 200);
        CHECKS.due("the place is the cursor's at first", Host.cells(x), 193, 200, 194);
        CHECKS.due("signs leave the cursor", x.cursor(), 1);
    }

    private static void unknownOrders() {
        for (int code = 1; code < 64; code++) {
            boolean known = code == 17 || code == 29 || code == 41 || code == 44 || code == 19 || code == 5
                || code == 60 || code == 18 || code == 8;
            if (!known) {
                BlockScreen x = Host.written(1, 3);
                CHECKS.due("order " + code, Host.send(x, Host.WRITE, 0, code, 0, 0, 0), BlockScreen.NONE);
            }
        }
    }

    private static void addresses() {
        BlockScreen x = Host.written(43, 132);
        placeIs(x, 0, 255, 255);
        placeIs(x, 22, 43, 5675);
        placeIs(x, 63, 63, BlockScreen.NONE);
        placeIs(x, 22, 44, BlockScreen.NONE);
        placeIs(x, 64, 64, 0);
        placeIs(x, 193, 80, 80);
        placeIs(x, 127, 127, 4095);
        placeIs(x, 255, 255, 4095);
        placeIs(x, 65, 5, 69);
        CHECKS.due("half an address", Host.send(x, Host.WRITE, 0, 17, 64), BlockScreen.NONE);
        CHECKS.due("half a plain address", Host.send(x, Host.WRITE, 0, 17, 1), BlockScreen.NONE);
        Host.send(x, Host.ERASE_WRITE, 0);
        placeIs(x, 7, 127, 1919);
        placeIs(x, 7, 128, BlockScreen.NONE);
        placeIs(x, 93, 127, 1919);
        placeIs(x, 94, 64, BlockScreen.NONE);
    }

    private static void placeIs(BlockScreen x, int first, int second, int want) {
        int answer = Host.send(x, Host.WRITE, 2, 17, first, second, 19);
        String name = "address " + first + " " + second;
        CHECKS.due(name + " done", answer, want == BlockScreen.NONE ? BlockScreen.NONE : 3);
        if (want != BlockScreen.NONE) {
            CHECKS.due(name, x.cursor(), want);
        }
    }

    private static void startField() {
        BlockScreen x = Host.written(1, 4, 193, 29, 255, 17, 0, 3, 29, 13, 19);
        CHECKS.due("29", Host.cells(x), 193, 256 + 255, 0, 256 + 13);
        CHECKS.due("29 goes on, round", x.cursor(), 0);
        CHECKS.due("29 makes fields", x.count(2), 2);
        Host.send(x, Host.WRITE, 0, 17, 0, 1, 29, 2);
        CHECKS.due("29 over an attribute", x.cell(1), 256 + 2);
        CHECKS.due("is still one", x.count(2), 2);
    }

    private static void startFieldByPairs() {
        BlockScreen x = Host.written(1, 6,
            41, 0, 41, 1, 192, 33, 41, 2, 66, 240, 192, 16, 41, 1, 65, 7, 41, 2, 192, 1, 192, 2, 19);
        CHECKS.due("41", Host.cells(x), 256, 256 + 33, 256 + 16, 256, 256 + 2, 0);
        CHECKS.due("41 goes on", x.cursor(), 5);
        x = Host.written(1, 3, 193);
        CHECKS.due("41 with too few", Host.send(x, Host.WRITE, 0, 41, 2, 192, 1, 192), BlockScreen.NONE);
        CHECKS.due("puts nothing", Host.cells(x), 193, 0, 0);
        CHECKS.due("41 with just enough", Host.send(x, Host.WRITE, 0, 41, 2, 192, 1, 192, 3), 2);
        CHECKS.due("puts it", Host.cells(x), 256 + 3, 0, 0);
        CHECKS.due("41 with 255 pairs and none", Host.send(x, Host.WRITE, 0, 41, 255), BlockScreen.NONE);
    }

    private static void changeAttribute() {
        BlockScreen x = Host.written(1, 4, 29, 5, 29, 6, 193);
        CHECKS.due("44", Host.send(x, Host.WRITE, 0, 17, 0, 0, 44, 1, 192, 33, 44, 1, 65, 9, 19), 5);
        CHECKS.due("44 changes, or leaves it without such a pair", Host.cells(x), 256 + 33, 256 + 6, 193, 0);
        CHECKS.due("44 goes on", x.cursor(), 2);
        CHECKS.due("44 where no attribute is", Host.send(x, Host.WRITE, 2, 44, 1, 192, 33, 200), BlockScreen.NONE);
        CHECKS.due("changes nothing", Host.cells(x), 256 + 33, 256 + 6, 193, 0);
        CHECKS.due("44 0 where no attribute is", Host.send(x, Host.WRITE, 2, 17, 0, 3, 44, 0), BlockScreen.NONE);
        CHECKS.due("44 with no pairs", Host.send(x, Host.WRITE, 2, 17, 0, 1, 44, 0, 200), 3);
        CHECKS.due("44 with no pairs goes on", Host.cells(x), 256 + 33, 256 + 6, 200, 0);
    }

    private static void cursorOrder() {
        BlockScreen x = Host.written(2, 3, 193, 19, 194, 195);
        CHECKS.due("19", x.cursor(), 1);
        Host.send(x, Host.WRITE, 0, 17, 0, 5, 19, 200, 201);
        CHECKS.due("19 at the last cell", x.cursor(), 5);
        CHECKS.due("19 leaves the place", Host.cells(x), 201, 194, 195, 0, 0, 200);
    }

    private static void tabEmpties() {
        BlockScreen x = Host.written(1, 6, 193, 194, 195, 29, 32, 196, 197);
        Host.send(x, Host.WRITE, 0, 200, 5);
        CHECKS.due("5 behind a sign", Host.cells(x), 200, 0, 0, 288, 196, 197);
        x = Host.written(1, 6, 193, 194, 195, 29, 32, 196, 197);
        Host.send(x, Host.WRITE, 0, 8, 200, 5, 199);
        CHECKS.due("5 behind 8 s", Host.cells(x), 199, 0, 0, 288, 196, 197);
        x = Host.written(1, 6, 193, 194, 195, 29, 32, 196, 197);
        Host.send(x, Host.WRITE, 0, 0, 5);
        CHECKS.due("5 behind an empty one", Host.cells(x), 0, 0, 0, 288, 196, 197);
        x = Host.written(1, 6, 193, 194, 195, 29, 32, 196, 197);
        Host.send(x, Host.WRITE, 0, 5);
        Host.send(x, Host.WRITE, 0, 200, 19, 5);
        Host.send(x, Host.WRITE, 0, 17, 0, 0, 60, 0, 1, 200, 5);
        CHECKS.due("5 behind others", Host.cells(x), 200, 194, 195, 288, 196, 197);
        x = Host.written(1, 6, 193, 194, 195, 29, 32, 196, 197);
        Host.send(x, Host.WRITE, 0, 17, 0, 4, 198, 5, 5, 5);
        CHECKS.due("5 to the last cell, once", Host.cells(x), 193, 194, 195, 288, 198, 0);
        x = Host.written(1, 6, 193, 194, 195, 29, 32, 196, 197);
        Host.send(x, Host.WRITE, 0, 17, 0, 2, 198, 5);
        CHECKS.due("5 with the place at an attribute", Host.cells(x), 193, 194, 198, 288, 196, 197);
        x = Host.written(1, 4, 193, 194, 195, 196);
        Host.send(x, Host.WRITE, 0, 17, 0, 3, 198, 5);
        CHECKS.due("5 behind a sign in the last cell", Host.cells(x), 0, 0, 0, 0);
    }

    private static void tabStops() {
        int[] form = {29, 32, 193, 29, 0, 194, 29, 48, 195, 29, 16, 29, 1};
        placeBehindTab(form, 0, 3);
        placeBehindTab(form, 2, 3);
        placeBehindTab(form, 3, 7);
        placeBehindTab(form, 6, 7);
        placeBehindTab(form, 7, 0);
        placeBehindTab(new int[] {29, 0, 193, 29, 32}, 1, 0);
        placeBehindTab(new int[] {193}, 1, 0);
    }

    private static void placeBehindTab(int[] form, int from, int want) {
        BlockScreen x = Host.written(1, 8, form);
        CHECKS.due("5 from " + from, Host.send(x, Host.WRITE, 0, 17, 0, from, 5, 19), 4);
        CHECKS.due("5 from " + from + " comes to", x.cursor(), want);
    }

    private static void repeat() {
        BlockScreen x = Host.written(1, 5, 193, 60, 0, 3, 255, 19);
        CHECKS.due("60", Host.cells(x), 193, 255, 255, 0, 0);
        CHECKS.due("60 leaves its address the place", x.cursor(), 3);
        Host.send(x, Host.WRITE, 0, 60, 0, 1, 194);
        CHECKS.due("60 round", Host.cells(x), 194, 255, 255, 194, 194);
        Host.send(x, Host.WRITE, 0, 29, 0, 17, 0, 3, 60, 0, 3, 0);
        CHECKS.due("60 to the place itself, attributes too", Host.cells(x), 0, 0, 0, 0, 0);
        CHECKS.due("60 leaves no fields", x.count(2), 0);
        CHECKS.due("60 beyond", Host.send(x, Host.WRITE, 0, 60, 0, 5, 193), BlockScreen.NONE);
        CHECKS.due("60 with no sign", Host.send(x, Host.WRITE, 0, 60, 0, 4, 63), BlockScreen.NONE);
        CHECKS.due("neither puts any", Host.cells(x), 0, 0, 0, 0, 0);
    }

    private static void erase() {
        int[] form = {193, 29, 33, 194, 29, 1, 195, 196, 29, 32, 197};
        BlockScreen x = Host.written(2, 4, form);
        Host.send(x, Host.WRITE, 0, 17, 0, 0, 18, 0, 5, 19);
        CHECKS.due("18", Host.cells(x), 193, 289, 194, 257, 0, 196, 288, 197);
        CHECKS.due("18 leaves its address the place", x.cursor(), 5);
        x = Host.written(2, 4, form);
        Host.send(x, Host.WRITE, 0, 17, 0, 5, 18, 0, 5);
        CHECKS.due("18 to the place itself", Host.cells(x), 193, 289, 194, 257, 0, 0, 288, 197);
        x = Host.written(1, 5, 193, 194, 29, 0, 195, 196);
        Host.send(x, Host.WRITE, 0, 17, 0, 4, 18, 0, 1);
        CHECKS.due("18 round", Host.cells(x), 0, 194, 256, 195, 0);
        x = Host.written(1, 4, 193, 194, 195, 196);
        Host.send(x, Host.WRITE, 0, 17, 0, 1, 18, 0, 3);
        CHECKS.due("18 without fields", Host.cells(x), 193, 0, 0, 196);
        CHECKS.due("18 beyond", Host.send(x, Host.WRITE, 0, 18, 0, 4), BlockScreen.NONE);
        CHECKS.due("does nothing", Host.cells(x), 193, 0, 0, 196);
    }

    private static void signOrder() {
        BlockScreen x = Host.written(1, 4, 8, 193, 8, 255, 8, 0, 19);
        CHECKS.due("8", Host.cells(x), 193, 255, 0, 0);
        CHECKS.due("8 goes on", x.cursor(), 3);
        CHECKS.due("8 with no sign", Host.send(x, Host.WRITE, 0, 8, 63), BlockScreen.NONE);
        CHECKS.due("puts none", x.cell(3), 0);
    }

    private static void lackingBytes() {
        int[][] cut = {{17}, {17, 0}, {29}, {41}, {41, 1}, {41, 1, 192}, {60}, {60, 0}, {60, 0, 1}, {18}, {18, 0},
            {8}, {44}, {44, 1}, {44, 1, 192}};
        for (int[] order : cut) {
            BlockScreen x = Host.written(1, 3, 29, 7, 193, 194);
            int[] stream = new int[2 + order.length];
            stream[0] = Host.WRITE;
            stream[1] = 2;
            System.arraycopy(order, 0, stream, 2, order.length);
            CHECKS.due("a cut order " + order[0], Host.send(x, stream), BlockScreen.NONE);
            CHECKS.due("a cut order does nothing", Host.cells(x), 256 + 7, 193, 194);
            CHECKS.due("a cut order locks", x.locked(), true);
        }
    }
}
