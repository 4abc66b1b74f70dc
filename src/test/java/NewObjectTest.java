/** Promise 1: a new object. */
final class NewObjectTest {
    private static final Checks CHECKS = new Checks();

    public static void main(String[] args) {
        sizes(4, 10, 4, 10);
        sizes(1, 1, 1, 1);
        sizes(43, 132, 43, 132);
        sizes(44, 133, 43, 132);
        sizes(0, 0, 1, 1);
        sizes(Integer.MIN_VALUE, Integer.MAX_VALUE, 1, 132);
        sizes(Integer.MAX_VALUE, Integer.MIN_VALUE, 43, 1);
        firstState();
        CHECKS.finish();
    }

    private static void sizes(int rows, int columns, int wantRows, int wantColumns) {
        BlockScreen x = new BlockScreen(rows, columns);
        String name = "new BlockScreen(" + rows + ", " + columns + ")";
        CHECKS.due(name + " rows", x.count(0), wantRows);
        CHECKS.due(name + " columns", x.count(1), wantColumns);
        CHECKS.due(name + " cursor", x.cursor(), 0);
        CHECKS.due(name + " last sign", x.sign(wantRows - 1, wantColumns - 1), 0);
        CHECKS.due(name + " behind the last row", x.sign(wantRows, 0), -2);
        CHECKS.due(name + " behind the last column", x.sign(0, wantColumns), -2);
        CHECKS.due(name + " cells", Host.cells(x), new int[wantRows * wantColumns]);
    }

    private static void firstState() {
        BlockScreen x = new BlockScreen(3, 5);
        CHECKS.due("first locked", x.locked(), true);
        CHECKS.due("first inbound", x.inbound(), 0);
        CHECKS.due("first fields", x.count(2), 0);
        CHECKS.due("first alarms", x.count(3), 0);
        CHECKS.due("first rejects", x.count(4), 0);
        CHECKS.due("first insert", x.count(5), 0);
        CHECKS.due("first key", x.count(6), 96);
        CHECKS.due("first attribute", x.attribute(0, 0), BlockScreen.NONE);
        CHECKS.due("two screens are apart", Host.send(Host.written(3, 5, 193), Host.WRITE, 0), 1);
        CHECKS.due("the other stays empty", x.cell(0), 0);
    }
}
