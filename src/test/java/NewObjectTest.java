/** Promise 1, and SCREEN of the terms. */
final class NewObjectTest {
    private static final Checks CHECKS = new Checks();

    public static void main(String[] args) {
        sizesWithin();
        sizesOutside();
        firstState();
        addresses();
        behindTheLast();
        signsOrAttributes();
        allAtFirst();
        smallSizes();
        smallIsAScreenOfItsOwn();
        screensAreApart();
        CHECKS.finish();
    }

    private static void sizesWithin() {
        CHECKS.says("SCREEN: rows times columns CELLS, 1 .. 43 rows, 1 .. 132 columns");
        sizeIs(4, 10, 4, 10);
        sizeIs(1, 1, 1, 1);
        sizeIs(1, 132, 1, 132);
        sizeIs(43, 1, 43, 1);
        sizeIs(2, 131, 2, 131);
        sizeIs(42, 2, 42, 2);
        sizeIs(43, 132, 43, 132);
    }

    private static void sizesOutside() {
        CHECKS.says("(numbers outside are held to these)");
        sizeIs(0, 5, 1, 5);
        sizeIs(5, 0, 5, 1);
        sizeIs(-1, -1, 1, 1);
        sizeIs(44, 7, 43, 7);
        sizeIs(7, 133, 7, 132);
        sizeIs(44, 133, 43, 132);
        sizeIs(Integer.MIN_VALUE, Integer.MAX_VALUE, 1, 132);
        sizeIs(Integer.MAX_VALUE, Integer.MIN_VALUE, 43, 1);
        sizeIs(1 << 16, 1 << 16, 43, 132);
    }

    private static void sizeIs(int rows, int columns, int wantRows, int wantColumns) {
        Terminal x = new Terminal(rows, columns);
        String name = "new BlockScreen(" + rows + ", " + columns + ")";
        int size = wantRows * wantColumns;
        CHECKS.due(name + " rows", x.count(0), wantRows);
        CHECKS.due(name + " columns", x.count(1), wantColumns);
        CHECKS.due(name + " last sign", x.sign(wantRows - 1, wantColumns - 1), 0);
        CHECKS.due(name + " behind the last row", x.sign(wantRows, 0), -2);
        CHECKS.due(name + " behind the last column", x.sign(0, wantColumns), -2);
        CHECKS.due(name + " last cell", x.cellThrows(size - 1), false);
        CHECKS.due(name + " behind the last cell", x.cellThrows(size), true);
        CHECKS.due(name + " cursor", x.cursor(), 0);
        CHECKS.due(name + " all cells empty", x.isEmptied(), true);
        CHECKS.due(name + " cells of a field over all", x.field(0, 2), size - 1);
    }

    private static void firstState() {
        CHECKS.says("A screen of so many rows and columns, all cells empty, cursor 0");
        Terminal x = new Terminal(3, 5);
        CHECKS.due("cells", x.cells(), new int[15]);
        CHECKS.due("cursor", x.cursor(), 0);
        CHECKS.due("locked", x.locked(), true);
        CHECKS.due("inbound", x.inbound(), 0);
        CHECKS.due("fields", x.count(2), 0);
        CHECKS.due("alarms", x.count(3), 0);
        CHECKS.due("rejects", x.count(4), 0);
        CHECKS.due("insert", x.count(5), 0);
        CHECKS.due("key", x.count(6), 96);
    }

    private static void addresses() {
        CHECKS.says("their ADDRESSES counted row by row from 0");
        Terminal x = Terminal.written(3, 4, 65, 66, 67, 68, 69, 70, 71, 72, 73, 74, 75, 76);
        for (int at = 0; at < 12; at++) {
            CHECKS.due("sign at " + at, x.sign(at / 4, at % 4), 65 + at);
            CHECKS.due("cell at " + at, x.cell(at), 65 + at);
        }
    }

    private static void behindTheLast() {
        CHECKS.says("the one behind the last is the first");
        Terminal x = Terminal.written(2, 2, 65, 66, 67, 68, 69, 19);
        CHECKS.due("signs go round", x.cells(), 69, 66, 67, 68);
        CHECKS.due("the place", x.cursor(), 1);
        x = Terminal.written(2, 2, 17, 0, 3, 29, 0, 19);
        CHECKS.due("an attribute in the last cell; the place", x.cursor(), 0);
        x = Terminal.written(1, 1, 65, 66, 19);
        CHECKS.due("one cell alone", x.cells(), 66);
        CHECKS.due("its place", x.cursor(), 0);
        x.type(193);
        CHECKS.due("its cursor behind typing", x.cursor(), 0);
        for (int code = 40; code <= 47; code++) {
            CHECKS.due("key " + code, x.key(code), 1);
            CHECKS.due("its cursor behind key " + code, x.cursor(), 0);
        }
    }

    private static void signsOrAttributes() {
        CHECKS.says("Each has a SIGN (0 .. 255, 0 empty) or is an ATTRIBUTE");
        Terminal x = Terminal.written(1, 5, 0, 64, 255, 29, 0, 29, 255);
        CHECKS.due("cells", x.cells(), 0, 64, 255, 256, 511);
    }

    private static void allAtFirst() {
        CHECKS.says("ALL of the screen is in use at first");
        Terminal x = new Terminal(43, 132);
        CHECKS.due("rows", x.count(0), 43);
        CHECKS.due("columns", x.count(1), 132);
        CHECKS.due("a write to the last cell", x.send(241, 2, 17, 22, 43, 193), 2);
        CHECKS.due("its sign", x.sign(42, 131), 193);
    }

    private static void smallSizes() {
        CHECKS.says("or the SMALL one: at most its first 24 rows and 80 columns");
        smallIs(24, 80, 24, 80);
        smallIs(25, 81, 24, 80);
        smallIs(23, 79, 23, 79);
        smallIs(43, 132, 24, 80);
        smallIs(43, 79, 24, 79);
        smallIs(23, 132, 23, 80);
        smallIs(1, 1, 1, 1);
    }

    private static void smallIs(int rows, int columns, int wantRows, int wantColumns) {
        Terminal x = Terminal.written(rows, columns);
        x.send(245, 0);
        String name = "the small one of " + rows + " and " + columns;
        CHECKS.due(name + ": rows", x.count(0), wantRows);
        CHECKS.due(name + ": columns", x.count(1), wantColumns);
        CHECKS.due(name + ": the last cell", x.cellThrows(wantRows * wantColumns - 1), false);
        CHECKS.due(name + ": behind it", x.cellThrows(wantRows * wantColumns), true);
        CHECKS.due(name + ": back to all", x.send(126, 0), 1);
        CHECKS.due(name + ": all rows", x.count(0), rows);
        CHECKS.due(name + ": all columns", x.count(1), columns);
    }

    private static void smallIsAScreenOfItsOwn() {
        CHECKS.says("as a screen of its own");
        Terminal x = Terminal.written(30, 90);
        x.send(245, 2, 17, 0, 80, 193, 17, 7, 127, 194, 195, 19);
        CHECKS.due("its rows are 80 long", x.sign(1, 0), 193);
        CHECKS.due("its last cell", x.sign(23, 79), 194);
        CHECKS.due("behind its last is its first", x.sign(0, 0), 195);
        CHECKS.due("the place behind that", x.cursor(), 1);
        x.key(46);
        CHECKS.due("up from its first row", x.cursor(), 23 * 80 + 1);
        x.key(47);
        x.key(44);
        x.key(44);
        CHECKS.due("left from its first cell", x.cursor(), 1919);
        x.key(45);
        CHECKS.due("right from its last cell", x.cursor(), 0);
        x.key(47);
        CHECKS.due("down", x.cursor(), 80);
    }

    private static void screensAreApart() {
        CHECKS.says("A screen of so many rows and columns, all cells empty, cursor 0");
        Terminal one = Terminal.written(1, 3, 193, 19);
        Terminal other = new Terminal(1, 3);
        CHECKS.due("another's cells", other.cells(), 0, 0, 0);
        CHECKS.due("another's cursor", other.cursor(), 0);
        CHECKS.due("the first one's cells", one.cells(), 193, 0, 0);
    }
}
