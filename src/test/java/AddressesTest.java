/** ADDRESSES in streams to the terminal. */
final class AddressesTest {
    private static final Checks CHECKS = new Checks();

    public static void main(String[] args) {
        plain();
        sixBits();
        beyondTheLargest();
        beyondTheSmallOne();
        beyondLittleScreens();
        halfOfOne();
        CHECKS.finish();
    }

    private static void plain() {
        CHECKS.says("two bytes: if the first is below 64, its 256-fold and the second");
        placeIs(0, 0, 0);
        placeIs(0, 64, 64);
        placeIs(0, 255, 255);
        placeIs(1, 0, 256);
        placeIs(5, 66, 5 * 256 + 66);
        placeIs(22, 43, 5675);
    }

    private static void sixBits() {
        CHECKS.says("else both modulo 64, the first 64-fold");
        placeIs(64, 64, 0);
        placeIs(64, 0, 0);
        placeIs(64, 127, 63);
        placeIs(65, 5, 69);
        placeIs(65, 64, 64);
        placeIs(127, 127, 4095);
        placeIs(128, 128, 0);
        placeIs(193, 80, 80);
        placeIs(255, 255, 4095);
        placeIs(192, 63, 63);
    }

    private static void beyondTheLargest() {
        CHECKS.says("One beyond the screen: a reject");
        placeIs(22, 44, Terminal.NONE);
        placeIs(23, 0, Terminal.NONE);
        placeIs(63, 63, Terminal.NONE);
        placeIs(63, 255, Terminal.NONE);
    }

    private static void placeIs(int first, int second, int want) {
        placeIs(Terminal.written(43, 132), first, second, want);
    }

    private static void placeIs(Terminal x, int first, int second, int want) {
        boolean within = want != Terminal.NONE;
        String name = "address " + first + " " + second;
        CHECKS.due(name + " is done", x.send(241, 2, 17, first, second, 19), within ? 3 : Terminal.NONE);
        CHECKS.due(name, x.cursor(), within ? want : 0);
        CHECKS.due(name + ": locked", x.locked(), !within);
    }

    private static void beyondTheSmallOne() {
        CHECKS.says("One beyond the screen: a reject");
        placeIs(small(), 7, 127, 1919);
        placeIs(small(), 7, 128, Terminal.NONE);
        placeIs(small(), 93, 127, 1919);
        placeIs(small(), 94, 64, Terminal.NONE);
        Terminal x = small();
        CHECKS.due("60 beyond it", x.send(241, 0, 60, 7, 128, 193), Terminal.NONE);
        CHECKS.due("18 beyond it", x.send(241, 0, 18, 7, 128), Terminal.NONE);
        CHECKS.due("it stays empty", x.isEmptied(), true);
    }

    private static Terminal small() {
        Terminal x = Terminal.written(43, 132);
        x.send(245, 2);
        return x;
    }

    private static void beyondLittleScreens() {
        CHECKS.says("One beyond the screen: a reject");
        placeIs(Terminal.written(1, 1), 0, 0, 0);
        placeIs(Terminal.written(1, 1), 0, 1, Terminal.NONE);
        placeIs(Terminal.written(1, 1), 64, 65, Terminal.NONE);
        placeIs(Terminal.written(4, 10), 64, 103, 39);
        placeIs(Terminal.written(4, 10), 64, 104, Terminal.NONE);
        placeIs(Terminal.written(4, 10), 0, 39, 39);
        placeIs(Terminal.written(4, 10), 0, 40, Terminal.NONE);
    }

    /** On a screen so large that each byte alone could be taken for an address within it. */
    private static void halfOfOne() {
        CHECKS.says("bytes that lack: a reject");
        for (int order : new int[] {17, 18, 60}) {
            for (int first : new int[] {0, 1, 20, 64, 65, 127, 255}) {
                Terminal x = Terminal.written(43, 132, 193);
                CHECKS.due(order + " " + first, x.send(241, 2, order, first), Terminal.NONE);
                CHECKS.due(order + " " + first + ": cells", x.cell(0) * 256 + x.cell(1), 193 * 256);
                CHECKS.due(order + " " + first + ": locked", x.locked(), true);
            }
        }
    }
}
