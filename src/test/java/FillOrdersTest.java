/** The orders 5, 60 and 18, which go over many cells. */
final class FillOrdersTest {
    private static final Checks CHECKS = new Checks();
    private static final int[] ROW = {193, 194, 195, 29, 32, 196, 197};

    public static void main(String[] args) {
        emptiesBehindASign();
        emptiesBehindNothingElse();
        emptiesUpToTheNextAttribute();
        emptiesToTheLastCell();
        emptiesOnce();
        tabStops();
        tabStopsTillTheLastCell();
        tabStopWithout();
        repeatUpToTheAddress();
        repeatRound();
        repeatAllCells();
        repeatOverAttributes();
        repeatThatIsRejected();
        eraseUpToTheAddress();
        eraseRound();
        eraseAllCells();
        eraseWithoutFields();
        eraseThatIsRejected();
        CHECKS.finish();
    }

    private static void emptiesBehindASign() {
        CHECKS.says("5: if a sign was put just before it (by 8, too");
        cellsBy("a sign", new int[] {200, 5}, 200, 0, 0, 288, 196, 197);
        cellsBy("8 s", new int[] {8, 200, 5}, 200, 0, 0, 288, 196, 197);
        cellsBy("0", new int[] {0, 5}, 0, 0, 0, 288, 196, 197);
        cellsBy("8 0", new int[] {8, 0, 5}, 0, 0, 0, 288, 196, 197);
        cellsBy("sign 255", new int[] {255, 5}, 255, 0, 0, 288, 196, 197);
        cellsBy("sign 64", new int[] {64, 5}, 64, 0, 0, 288, 196, 197);
    }

    private static void emptiesBehindNothingElse() {
        CHECKS.says("29, 60 and so on being none)");
        cellsBy("the control", new int[] {5}, 193, 194, 195, 288, 196, 197);
        cellsBy("29", new int[] {29, 33, 5}, 289, 194, 195, 288, 196, 197);
        cellsBy("29 with an attribute as a sign", new int[] {29, 96, 5}, 352, 194, 195, 288, 196, 197);
        cellsBy("41", new int[] {41, 1, 192, 33, 5}, 289, 194, 195, 288, 196, 197);
        cellsBy("44", new int[] {17, 0, 3, 44, 1, 192, 33, 5}, 193, 194, 195, 289, 196, 197);
        cellsBy("60", new int[] {60, 0, 1, 200, 5}, 200, 194, 195, 288, 196, 197);
        cellsBy("17", new int[] {200, 17, 0, 1, 5}, 200, 194, 195, 288, 196, 197);
        cellsBy("19", new int[] {200, 19, 5}, 200, 194, 195, 288, 196, 197);
        cellsBy("18", new int[] {200, 18, 0, 2, 5}, 200, 194, 195, 288, 196, 197);
    }

    /** What a write makes of a row whose only field is protected. */
    private static void cellsBy(String name, int[] orders, int... want) {
        Terminal x = Terminal.written(1, 6, ROW);
        CHECKS.due("5 behind " + name + " is done", x.sendWith(241, 0, orders) > 0, true);
        CHECKS.due("cells by 5 behind " + name, x.cells(), want);
    }

    private static void emptiesUpToTheNextAttribute() {
        CHECKS.says("cells from the place up to the next attribute");
        Terminal x = Terminal.written(1, 8, 193, 194, 195, 29, 0, 196, 29, 0, 197, 198);
        x.send(241, 0, 200, 5, 201);
        CHECKS.due("cells", x.cells(), 200, 0, 0, 256, 201, 256, 197, 198);
        x = Terminal.written(1, 8, 193, 194, 195, 29, 0, 196, 29, 0, 197, 198);
        x.send(241, 0, 17, 0, 2, 200, 5, 201);
        CHECKS.due("the place at an attribute", x.cells(), 193, 194, 200, 256, 201, 256, 197, 198);
        x = Terminal.written(1, 6, 29, 32, 194, 195, 29, 0, 196, 197);
        x.send(241, 0, 17, 0, 1, 200, 5);
        CHECKS.due("in a protected field", x.cells(), 288, 200, 0, 256, 196, 197);
    }

    private static void emptiesToTheLastCell() {
        CHECKS.says("or the last cell, are emptied");
        cellsBy("a sign in the last field", new int[] {17, 0, 4, 198, 5}, 193, 194, 195, 288, 198, 0);
        Terminal x = Terminal.written(1, 4, 193, 194, 195, 196);
        x.send(241, 0, 17, 0, 1, 200, 5);
        CHECKS.due("without fields", x.cells(), 193, 200, 0, 0);
        x = Terminal.written(1, 4, 193, 194, 195, 196);
        x.send(241, 0, 17, 0, 3, 200, 5);
        CHECKS.due("behind a sign in the last cell the place is the first", x.cells(), 0, 0, 0, 0);
    }

    private static void emptiesOnce() {
        CHECKS.says("if a sign was put just before it");
        cellsBy("5", new int[] {17, 0, 4, 198, 5, 5, 5}, 193, 194, 195, 288, 198, 0);
        Terminal x = Terminal.written(1, 6, ROW);
        x.send(241, 0, 200);
        x.send(241, 0, 5);
        CHECKS.due("a sign of the stream before", x.cells(), 200, 194, 195, 288, 196, 197);
        x.send(241, 0, 200, 1);
        x.send(241, 0, 5);
        CHECKS.due("a sign of a rejected stream before", x.cells(), 200, 194, 195, 288, 196, 197);
    }

    private static void tabStops() {
        CHECKS.says("then the place is behind the first attribute of a field that is not protected");
        int[] form = {29, 32, 193, 29, 0, 194, 29, 48, 195, 29, 16, 29, 1};
        placeBehindTab(form, 0, 3);
        placeBehindTab(form, 1, 3);
        placeBehindTab(form, 2, 3);
        placeBehindTab(form, 3, 7);
        placeBehindTab(form, 6, 7);
        placeBehindTab(new int[] {29, 0, 29, 0, 29, 0}, 1, 2);
    }

    private static void tabStopsTillTheLastCell() {
        CHECKS.says("from the place to the last cell");
        int[] form = {29, 0, 193, 17, 0, 7, 29, 0};
        placeBehindTab(form, 0, 1);
        placeBehindTab(form, 1, 0);
        placeBehindTab(form, 7, 0);
        placeBehindTab(new int[] {29, 0, 193, 17, 0, 6, 29, 0}, 1, 7);
        placeBehindTab(new int[] {29, 0, 193, 17, 0, 6, 29, 0}, 6, 7);
    }

    private static void tabStopWithout() {
        CHECKS.says("(0 without)");
        placeBehindTab(new int[] {29, 32, 193, 29, 0, 194, 29, 48, 195, 29, 16, 29, 1}, 7, 0);
        placeBehindTab(new int[] {29, 0, 193, 29, 32}, 1, 0);
        placeBehindTab(new int[] {0, 29, 0, 193}, 2, 0);
        placeBehindTab(new int[] {29, 32}, 0, 0);
        placeBehindTab(new int[] {193}, 5, 0);
    }

    private static void placeBehindTab(int[] form, int from, int want) {
        Terminal x = Terminal.written(1, 8, form);
        CHECKS.due("5 from " + from, x.send(241, 0, 17, 0, from, 5, 19), 4);
        CHECKS.due("the place by 5 from " + from, x.cursor(), want);
    }

    private static void repeatUpToTheAddress() {
        CHECKS.says("60 a a s: sign s from the place up to that address (not that one;");
        Terminal x = Terminal.written(1, 5, 193, 60, 0, 3, 255, 19);
        CHECKS.due("cells", x.cells(), 193, 255, 255, 0, 0);
        CHECKS.due("which is the place then", x.cursor(), 3);
        x = Terminal.written(1, 5, 193, 60, 0, 2, 0, 194, 60, 0, 4, 64);
        CHECKS.due("one cell each", x.cells(), 193, 0, 194, 64, 0);
    }

    private static void repeatRound() {
        CHECKS.says("round;");
        Terminal x = Terminal.written(1, 5, 193, 194, 195, 196, 197);
        CHECKS.due("60", x.send(241, 0, 17, 0, 3, 60, 0, 1, 200, 19), 4);
        CHECKS.due("cells", x.cells(), 200, 194, 195, 200, 200);
        CHECKS.due("the place", x.cursor(), 1);
        x.send(241, 0, 17, 0, 4, 60, 0, 0, 201, 19);
        CHECKS.due("up to the first", x.cells(), 200, 194, 195, 200, 201);
        CHECKS.due("the place at the first", x.cursor(), 0);
        x.send(241, 0, 17, 0, 2, 60, 0, 1, 0);
        CHECKS.due("all but one", x.cells(), 0, 194, 0, 0, 0);
    }

    private static void repeatAllCells() {
        CHECKS.says("all cells if it is the place itself), which is the place then");
        for (int at = 0; at < 4; at++) {
            Terminal x = Terminal.written(2, 2, 193, 29, 5);
            x.send(241, 0, 17, 0, at, 60, 0, at, 200, 19);
            CHECKS.due("cells from " + at, x.cells(), 200, 200, 200, 200);
            CHECKS.due("the place from " + at, x.cursor(), at);
        }
        Terminal x = Terminal.written(1, 1, 193);
        x.send(241, 0, 60, 0, 0, 194);
        CHECKS.due("one cell", x.cells(), 194);
    }

    private static void repeatOverAttributes() {
        CHECKS.says("A sign or an empty cell in an attribute's place: that is none any more");
        Terminal x = Terminal.written(1, 5, 29, 1, 29, 2, 29, 3, 29, 4);
        x.send(241, 0, 17, 0, 1, 60, 0, 3, 193);
        CHECKS.due("by 60", x.cells(), 257, 193, 193, 260, 0);
        CHECKS.due("fields", x.count(2), 2);
        x.send(241, 0, 60, 0, 0, 0);
        CHECKS.due("by 60 with empty ones", x.cells(), 0, 0, 0, 0, 0);
        CHECKS.due("fields then", x.count(2), 0);
        x = Terminal.written(1, 4, 29, 1, 29, 2, 29, 3);
        x.send(241, 0, 193, 0);
        CHECKS.due("by signs", x.cells(), 193, 0, 259, 0);
        CHECKS.due("fields left", x.count(2), 1);
        CHECKS.due("the attribute of the cells", x.attribute(0, 0), 3);
        x.send(241, 0, 17, 0, 2, 0);
        CHECKS.due("no field is left", x.attribute(0, 0), Terminal.NONE);
    }

    private static void repeatThatIsRejected() {
        CHECKS.says("One beyond the screen: a reject");
        Terminal x = Terminal.written(1, 5, 193);
        CHECKS.due("60 beyond", x.send(241, 0, 60, 0, 5, 193), Terminal.NONE);
        CHECKS.due("60 far beyond", x.send(241, 0, 60, 63, 255, 193), Terminal.NONE);
        CHECKS.due("cells", x.cells(), 193, 0, 0, 0, 0);
    }

    private static void eraseUpToTheAddress() {
        CHECKS.says("18 a a: likewise cells that are not protected are emptied (attributes stay)");
        int[] form = {193, 29, 33, 194, 29, 1, 195, 196, 29, 32, 197};
        Terminal x = Terminal.written(2, 4, form);
        CHECKS.due("18", x.send(241, 0, 17, 0, 0, 18, 0, 5, 19), 4);
        CHECKS.due("cells", x.cells(), 193, 289, 194, 257, 0, 196, 288, 197);
        CHECKS.due("the place", x.cursor(), 5);
        x = Terminal.written(2, 4, form);
        x.send(241, 0, 17, 0, 5, 18, 0, 6);
        CHECKS.due("from within a field", x.cells(), 193, 289, 194, 257, 195, 0, 288, 197);
        x = Terminal.written(2, 4, form);
        x.send(241, 0, 17, 0, 2, 18, 0, 3);
        CHECKS.due("within a protected one", x.cells(), 193, 289, 194, 257, 195, 196, 288, 197);
        CHECKS.due("modified stays", x.modified(1), true);
    }

    private static void eraseRound() {
        CHECKS.says("18 a a: likewise");
        Terminal x = Terminal.written(1, 5, 193, 194, 29, 0, 195, 196);
        x.send(241, 0, 17, 0, 4, 18, 0, 1, 19);
        CHECKS.due("round", x.cells(), 0, 194, 256, 195, 0);
        CHECKS.due("the place", x.cursor(), 1);
        x = Terminal.written(1, 5, 193, 29, 0, 195, 29, 32, 196);
        x.send(241, 0, 17, 0, 2, 18, 0, 1);
        CHECKS.due("round through a protected one", x.cells(), 193, 256, 0, 288, 196);
    }

    private static void eraseAllCells() {
        CHECKS.says("18 a a: likewise");
        int[] form = {193, 29, 33, 194, 29, 1, 195, 196, 29, 32, 197};
        for (int at = 0; at < 8; at++) {
            Terminal x = Terminal.written(2, 4, form);
            x.send(241, 0, 17, 0, at, 18, 0, at, 19);
            CHECKS.due("all cells from " + at, x.cells(), 193, 289, 194, 257, 0, 0, 288, 197);
            CHECKS.due("the place from " + at, x.cursor(), at);
        }
    }

    private static void eraseWithoutFields() {
        CHECKS.says("18 a a: likewise cells that are not protected are emptied");
        Terminal x = Terminal.written(1, 4, 193, 194, 195, 196);
        x.send(241, 0, 17, 0, 1, 18, 0, 3);
        CHECKS.due("without fields", x.cells(), 193, 0, 0, 196);
        x.send(241, 0, 18, 0, 0);
        CHECKS.due("all without fields", x.cells(), 0, 0, 0, 0);
    }

    private static void eraseThatIsRejected() {
        CHECKS.says("One beyond the screen: a reject");
        Terminal x = Terminal.written(1, 4, 193, 194, 195, 196);
        CHECKS.due("18 beyond", x.send(241, 0, 18, 0, 4), Terminal.NONE);
        CHECKS.due("cells", x.cells(), 193, 194, 195, 196);
    }
}
