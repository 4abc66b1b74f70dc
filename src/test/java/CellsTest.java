/** Promises 3, 4 and 13: sign, attribute and cell. */
final class CellsTest {
    private static final Checks CHECKS = new Checks();

    public static void main(String[] args) {
        ordinary();
        withoutFields();
        outside();
        hiddenIsTold();
        CHECKS.finish();
    }

    private static void ordinary() {
        BlockScreen x = Host.written(2, 4, 193, 29, 240, 194, 255, 29, 33);
        CHECKS.due("sign", x.sign(0, 0), 193);
        CHECKS.due("sign of an attribute", x.sign(0, 1), BlockScreen.NONE);
        CHECKS.due("sign 255", x.sign(0, 3), 255);
        CHECKS.due("sign of an empty cell", x.sign(1, 3), 0);
        CHECKS.due("attribute round the end", x.attribute(0, 0), 33);
        CHECKS.due("attribute where it lies", x.attribute(0, 1), 256 + 240);
        CHECKS.due("attribute of a field", x.attribute(0, 3), 240);
        CHECKS.due("attribute of the next", x.attribute(1, 3), 33);
        CHECKS.due("attribute 0 where it lies", Host.written(1, 2, 29, 0).attribute(0, 0), 256);
        CHECKS.due("attribute 0 of its field", Host.written(1, 2, 29, 0).attribute(0, 1), 0);
        CHECKS.due("cell sign", x.cell(3), 255);
        CHECKS.due("cell attribute", x.cell(4), 256 + 33);
        CHECKS.due("cell empty", x.cell(7), 0);
    }

    private static void withoutFields() {
        BlockScreen x = Host.written(1, 1, 193);
        CHECKS.due("no attribute", x.attribute(0, 0), BlockScreen.NONE);
        Host.send(x, Host.WRITE, 2, 29, 1);
        CHECKS.due("an attribute alone", x.attribute(0, 0), 257);
    }

    private static void outside() {
        BlockScreen x = Host.written(30, 100);
        int[][] places = {{-1, 0}, {0, -1}, {30, 0}, {0, 100}, {Integer.MIN_VALUE, 0}, {Integer.MAX_VALUE, 0},
            {0, Integer.MAX_VALUE}};
        for (int[] place : places) {
            CHECKS.due("sign outside", x.sign(place[0], place[1]), -2);
            CHECKS.due("attribute outside", x.attribute(place[0], place[1]), -2);
        }
        CHECKS.due("the last cell", throwsAt(x, 2999), false);
        CHECKS.due("behind the last", throwsAt(x, 3000), true);
        CHECKS.due("ahead of the first", throwsAt(x, -1), true);
        CHECKS.due("far off", throwsAt(x, Integer.MIN_VALUE), true);
        Host.send(x, Host.ERASE_WRITE, 0, 29, 0);
        CHECKS.due("sign outside the small one", x.sign(24, 0), -2);
        CHECKS.due("sign beside the small one", x.sign(0, 80), -2);
        CHECKS.due("attribute beside the small one", x.attribute(0, 80), -2);
        CHECKS.due("the small one's last", throwsAt(x, 1919), false);
        CHECKS.due("behind the small one", throwsAt(x, 1920), true);
    }

    private static boolean throwsAt(BlockScreen x, int address) {
        try {
            x.cell(address);
            return false;
        } catch (ArrayIndexOutOfBoundsException e) {
            return true;
        }
    }

    private static void hiddenIsTold() {
        BlockScreen x = Host.written(1, 3, 29, 12, 193);
        CHECKS.due("a hidden sign", x.sign(0, 1), 193);
        CHECKS.due("a hidden field's attribute", x.attribute(0, 1), 12);
    }
}
