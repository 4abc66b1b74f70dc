/** Promises 7 and 8: inbound and octet. */
final class InboundTest {
    private static final Checks CHECKS = new Checks();

    public static void main(String[] args) {
        none();
        allCells();
        modifiedFields();
        fieldsRound();
        withoutFields();
        addresses();
        latestKey();
        snapshot();
        large();
        CHECKS.finish();
    }

    private static void none() {
        BlockScreen x = new BlockScreen(2, 3);
        CHECKS.due("none waits", x.inbound(), 0);
        CHECKS.due("octet 0 of none", throwsAt(x, 0), true);
        Host.send(x, Host.READ_MODIFIED);
        CHECKS.due("octets", Host.waiting(x), 96, 64, 64, 255, 239);
        CHECKS.due("octet is a byte", x.octet(4), (byte) 239);
        CHECKS.due("octet behind the last", throwsAt(x, 5), true);
        CHECKS.due("octet ahead of the first", throwsAt(x, -1), true);
        CHECKS.due("octet far off", throwsAt(x, Integer.MAX_VALUE), true);
        CHECKS.due("octet far off again", throwsAt(x, Integer.MIN_VALUE), true);
        Host.send(x, Host.WRITE, 2);
        CHECKS.due("none waits any more", x.inbound(), 0);
        CHECKS.due("octet 0 of what went", throwsAt(x, 0), true);
    }

    private static boolean throwsAt(BlockScreen x, int i) {
        try {
            x.octet(i);
            return false;
        } catch (ArrayIndexOutOfBoundsException e) {
            return true;
        }
    }

    private static void allCells() {
        BlockScreen x = Host.written(1, 6, 193, 29, 255, 255, 29, 33, 0, 194, 17, 0, 4, 19);
        Host.send(x, Host.READ_ALL);
        CHECKS.due("all cells", Host.waiting(x),
            96, 64, 68, 193, 29, 255, 255, 255, 255, 29, 33, 0, 194, 255, 239);
        x = Host.written(1, 2, 29, 0);
        Host.send(x, Host.READ_ALL);
        CHECKS.due("all cells with attribute 0", Host.waiting(x), 96, 64, 64, 29, 0, 0, 255, 239);
    }

    private static void modifiedFields() {
        BlockScreen x = Host.written(2, 5, 29, 1, 193, 0, 255, 29, 0, 194, 29, 33, 195, 29, 1, 29, 0);
        x.key(1);
        CHECKS.due("what is modified", Host.waiting(x), 125, 64, 64,
            17, 64, 65, 193, 255, 255, 17, 64, 71, 195, 17, 64, 73, 255, 239);
        x = Host.written(1, 5, 29, 0, 193, 29, 32, 194);
        x.key(11);
        CHECKS.due("none is modified", Host.waiting(x), 241, 64, 64, 255, 239);
        CHECKS.due("a key changes no attribute", x.field(0, 1), 0);
    }

    private static void fieldsRound() {
        BlockScreen x = Host.written(1, 5, 193, 194, 29, 0, 195, 29, 1);
        x.key(1);
        CHECKS.due("a field round the end", Host.waiting(x), 125, 64, 64, 17, 64, 64, 193, 194, 255, 239);
        x = Host.written(1, 5, 193, 194, 29, 1, 195, 196);
        x.key(1);
        CHECKS.due("one field alone", Host.waiting(x), 125, 64, 64, 17, 64, 67, 195, 196, 193, 194, 255, 239);
    }

    private static void withoutFields() {
        BlockScreen x = Host.written(1, 5, 0, 193, 0, 255, 195, 17, 0, 3, 19);
        x.key(1);
        CHECKS.due("all signs", Host.waiting(x), 125, 64, 67, 193, 255, 255, 195, 255, 239);
    }

    private static void addresses() {
        BlockScreen x = Host.written(43, 132, 17, 0, 254, 29, 1, 193, 17, 22, 43, 19);
        x.key(1);
        CHECKS.due("plain addresses", Host.waiting(x), 125, 22, 43, 17, 0, 255, 255, 193, 255, 239);
        x.key(51);
        x.key(2);
        Host.send(x, Host.WRITE, 2, 17, 7, 127, 19);
        x.key(1);
        CHECKS.due("the small screen's addresses", Host.waiting(x), 125, 64 + 29, 127, 255, 239);
        x = Host.written(32, 128, 17, 15, 255, 19);
        x.key(1);
        CHECKS.due("4096 cells", Host.waiting(x), 125, 127, 127, 255, 239);
        x = Host.written(41, 100, 17, 15, 255, 19);
        x.key(1);
        CHECKS.due("4100 cells", Host.waiting(x), 125, 15, 255, 255, 255, 239);
    }

    private static void latestKey() {
        BlockScreen x = Host.written(1, 3, 193);
        x.key(22);
        Host.send(x, Host.WRITE, 2);
        Host.send(x, Host.READ_ALL);
        CHECKS.due("a read as by the latest key", Host.waiting(x), 124, 64, 64, 193, 0, 0, 255, 239);
        Host.send(x, Host.READ_MODIFIED);
        CHECKS.due("another read as by it", Host.waiting(x), 124, 64, 64, 193, 255, 239);
        x.key(3);
        for (int command : new int[] {Host.READ_ALL, Host.READ_MODIFIED, 110}) {
            Host.send(x, Host.WRITE, 2);
            Host.send(x, command);
            CHECKS.due(command + " as by a key that sends shortly", Host.waiting(x), 108, 255, 239);
        }
    }

    private static void snapshot() {
        BlockScreen x = Host.written(1, 3, 193);
        Host.send(x, Host.READ_ALL);
        x.type(200);
        Host.send(x, Host.ERASE_WRITE, 0);
        CHECKS.due("what waits stays as it was", Host.waiting(x), 96, 64, 64, 193, 0, 0, 255, 239);
    }

    private static void large() {
        BlockScreen x = Host.written(43, 132, 60, 0, 0, 255);
        Host.send(x, Host.READ_ALL);
        CHECKS.due("all cells doubled", x.inbound(), 3 + 2 * 5676 + 2);
        CHECKS.due("the last of them", x.octet(3 + 2 * 5676 - 1), (byte) 255);
        CHECKS.due("the end", x.octet(3 + 2 * 5676 + 1), (byte) 239);
        CHECKS.due("behind the end", throwsAt(x, 3 + 2 * 5676 + 2), true);
    }
}
