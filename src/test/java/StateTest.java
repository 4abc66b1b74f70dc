/** Promises 10, 11 and 14: cursor, locked and count. */
final class StateTest {
    private static final Checks CHECKS = new Checks();

    public static void main(String[] args) {
        cursor();
        locked();
        counts();
        CHECKS.finish();
    }

    private static void cursor() {
        BlockScreen x = Host.written(2, 3);
        CHECKS.due("cursor", x.cursor(), 0);
        x.type(193);
        CHECKS.due("cursor behind a sign", x.cursor(), 1);
        x.key(47);
        CHECKS.due("cursor below", x.cursor(), 4);
        Host.send(x, Host.WRITE, 0, 194, 195, 19);
        CHECKS.due("cursor by the host", x.cursor(), 0);
    }

    private static void locked() {
        BlockScreen x = new BlockScreen(2, 3);
        CHECKS.due("locked at first", x.locked(), true);
        x.key(51);
        CHECKS.due("freed by 51", x.locked(), false);
        x.key(1);
        CHECKS.due("locked by a key that sends", x.locked(), true);
        Host.send(x, Host.ERASE_OPEN);
        CHECKS.due("freed by 111", x.locked(), false);
        Host.send(x, Host.WRITE, 0);
        CHECKS.due("a write without 2 leaves it free", x.locked(), false);
        Host.send(x, 0);
        CHECKS.due("locked by a reject", x.locked(), true);
        Host.send(x, Host.WRITE, 2, 29, 32);
        CHECKS.due("freed by a write", x.locked(), false);
        x.type(193);
        CHECKS.due("locked by what can't be typed", x.locked(), true);
    }

    private static void counts() {
        BlockScreen x = Host.written(30, 100, 29, 0, 29, 0);
        CHECKS.due("rows", x.count(0), 30);
        CHECKS.due("columns", x.count(1), 100);
        CHECKS.due("fields", x.count(2), 2);
        Host.send(x, Host.WRITE, 4, 29, 0);
        Host.send(x, Host.WRITE, 7);
        CHECKS.due("alarms", x.count(3), 2);
        CHECKS.due("fields that came over others", x.count(2), 2);
        Host.send(x, 7);
        CHECKS.due("rejects", x.count(4), 1);
        x.key(51);
        x.key(50);
        CHECKS.due("insert", x.count(5), 1);
        x.key(5);
        CHECKS.due("the latest key", x.count(6), 107);
        for (int what : new int[] {-1, 7, Integer.MIN_VALUE, Integer.MAX_VALUE}) {
            CHECKS.due("count(" + what + ")", x.count(what), BlockScreen.NONE);
        }
    }
}
