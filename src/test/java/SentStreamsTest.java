/** STREAMS from the terminal. */
final class SentStreamsTest {
    private static final Checks CHECKS = new Checks();

    public static void main(String[] args) {
        keyAndCursor();
        allCells();
        modifiedFields();
        modifiedFieldsInOrder();
        behindTheAttributeRoundTheEnd();
        withoutEmpties();
        noneIsModified();
        withoutFields();
        shortly();
        marksDoubled();
        marksDoubledInAddresses();
        sixBitAddresses();
        plainAddresses();
        addressesOfTheSmallOne();
        theLongestOne();
        CHECKS.finish();
    }

    private static Terminal sentBy(Terminal x, int key) {
        if (x.key(key) != 1) {
            throw new IllegalStateException("a test's own key was refused");
        }
        return x;
    }

    private static void keyAndCursor() {
        CHECKS.says("the key's byte, the cursor's address");
        Terminal x = Terminal.written(3, 50, 17, 0, 130, 19);
        CHECKS.due("sent", sentBy(x, 1).waiting(), 125, 66, 66, 255, 239);
    }

    private static void allCells() {
        CHECKS.says("then for 242 all cells: sign, or 29 and attribute");
        Terminal x = Terminal.written(2, 3, 193, 29, 32, 0, 29, 1, 29, 0, 194, 17, 0, 4, 19);
        x.send(242);
        CHECKS.due("sent", x.waiting(), 96, 64, 68, 193, 29, 32, 0, 29, 1, 29, 0, 194, 255, 239);
        x = Terminal.written(1, 3);
        x.send(242);
        CHECKS.due("empty ones", x.waiting(), 96, 64, 64, 0, 0, 0, 255, 239);
        x = Terminal.written(1, 1, 29, 7);
        x.send(242);
        CHECKS.due("one attribute", x.waiting(), 96, 64, 64, 29, 7, 255, 239);
    }

    private static void modifiedFields() {
        CHECKS.says("for each modified field ..: 17, the address behind the attribute, its signs");
        Terminal x = Terminal.written(2, 5, 29, 1, 193, 194, 29, 0, 195, 29, 33, 196, 29, 1, 29, 0);
        CHECKS.due("sent", sentBy(x, 1).waiting(), 125, 64, 64,
            17, 64, 65, 193, 194, 17, 64, 70, 196, 17, 64, 72, 255, 239);
        CHECKS.due("they stay modified", x.modified(0) && x.modified(2) && x.modified(3), true);
    }

    private static void modifiedFieldsInOrder() {
        CHECKS.says("in the order of attributes");
        Terminal x = Terminal.written(1, 8, 29, 0, 0, 0, 0, 29, 0);
        x.cursorTo(5);
        x.type(194);
        x.cursorTo(2);
        x.type(193);
        CHECKS.due("sent", sentBy(x, 11).waiting(), 241, 64, 67, 17, 64, 65, 193, 17, 64, 69, 194, 255, 239);
    }

    private static void behindTheAttributeRoundTheEnd() {
        CHECKS.says("the address behind the attribute");
        Terminal x = Terminal.written(1, 5, 193, 194, 29, 0, 195, 29, 1);
        CHECKS.due("an attribute in the last cell", sentBy(x, 1).waiting(),
            125, 64, 64, 17, 64, 64, 193, 194, 255, 239);
        x = Terminal.written(1, 5, 193, 194, 29, 1, 195, 196);
        CHECKS.due("a field round the end", sentBy(x, 1).waiting(),
            125, 64, 64, 17, 64, 67, 195, 196, 193, 194, 255, 239);
        x = Terminal.written(1, 1, 29, 1);
        CHECKS.due("one attribute alone", sentBy(x, 1).waiting(), 125, 64, 64, 17, 64, 64, 255, 239);
        x = Terminal.written(1, 2, 29, 1, 29, 3);
        CHECKS.due("two attributes alone", sentBy(x, 1).waiting(), 125, 64, 64, 17, 64, 65, 17, 64, 64, 255, 239);
    }

    private static void withoutEmpties() {
        CHECKS.says("its signs without empties");
        Terminal x = Terminal.written(1, 6, 29, 1, 0, 193, 0, 194, 0);
        CHECKS.due("sent", sentBy(x, 1).waiting(), 125, 64, 64, 17, 64, 65, 193, 194, 255, 239);
        x = Terminal.written(1, 3, 29, 1);
        CHECKS.due("empty altogether", sentBy(x, 1).waiting(), 125, 64, 64, 17, 64, 65, 255, 239);
    }

    private static void noneIsModified() {
        CHECKS.says("for each modified field");
        Terminal x = Terminal.written(1, 4, 29, 0, 193, 29, 32, 194);
        CHECKS.due("none is", sentBy(x, 1).waiting(), 125, 64, 64, 255, 239);
    }

    private static void withoutFields() {
        CHECKS.says("without fields all signs that are not empty");
        Terminal x = Terminal.written(1, 5, 0, 193, 0, 194, 195, 17, 0, 3, 19);
        CHECKS.due("sent", sentBy(x, 1).waiting(), 125, 64, 67, 193, 194, 195, 255, 239);
        x = Terminal.written(1, 5);
        CHECKS.due("all empty", sentBy(x, 1).waiting(), 125, 64, 64, 255, 239);
    }

    private static void shortly() {
        CHECKS.says("Of a key that sends shortly: its byte alone");
        int[] codes = {2, 3, 4, 5};
        int[] bytes = {109, 108, 110, 107};
        for (int i = 0; i < codes.length; i++) {
            Terminal x = Terminal.written(1, 4, 29, 1, 193);
            CHECKS.due("key " + codes[i], sentBy(x, codes[i]).waiting(), bytes[i], 255, 239);
        }
    }

    private static void marksDoubled() {
        CHECKS.says("At the end 255 239, bytes 255 within doubled");
        Terminal x = Terminal.written(1, 4, 29, 255, 255, 239, 255);
        CHECKS.due("what is modified", sentBy(x, 1).waiting(),
            125, 64, 64, 17, 64, 65, 255, 255, 239, 255, 255, 255, 239);
        x.send(242);
        CHECKS.due("all cells", x.waiting(), 125, 64, 64, 29, 255, 255, 255, 255, 239, 255, 255, 255, 239);
        x = Terminal.written(1, 2, 255, 255);
        CHECKS.due("without fields", sentBy(x, 1).waiting(), 125, 64, 64, 255, 255, 255, 255, 255, 239);
    }

    private static void marksDoubledInAddresses() {
        CHECKS.says("bytes 255 within doubled");
        Terminal x = Terminal.written(43, 132, 17, 0, 254, 29, 1, 193, 17, 1, 255, 19);
        CHECKS.due("in the cursor's address and a field's", sentBy(x, 1).waiting(),
            125, 1, 255, 255, 17, 0, 255, 255, 193, 255, 239);
    }

    private static void sixBitAddresses() {
        CHECKS.says("Addresses: both bytes 64 + six bits, if the screen has up to 4096 cells");
        cursorSent(32, 128, 4095, 127, 127);
        cursorSent(32, 128, 4032, 127, 64);
        cursorSent(32, 128, 64, 65, 64);
        cursorSent(32, 128, 63, 64, 127);
        cursorSent(31, 132, 4091, 127, 123);
        cursorSent(1, 1, 0, 64, 64);
    }

    private static void plainAddresses() {
        CHECKS.says("else the plain two");
        cursorSent(41, 100, 4095, 15, 255, 255);
        cursorSent(41, 100, 4099, 16, 3);
        cursorSent(41, 100, 0, 0, 0);
        cursorSent(39, 106, 300, 1, 44);
        cursorSent(43, 132, 5675, 22, 43);
    }

    private static void cursorSent(int rows, int columns, int at, int... want) {
        Terminal x = Terminal.written(rows, columns, 17, at / 256, at % 256, 19);
        int[] all = java.util.Arrays.copyOf(new int[] {125}, want.length + 3);
        System.arraycopy(want, 0, all, 1, want.length);
        all[want.length + 1] = 255;
        all[want.length + 2] = 239;
        CHECKS.due("the cursor at " + at + " of " + rows * columns, sentBy(x, 1).waiting(), all);
    }

    private static void addressesOfTheSmallOne() {
        CHECKS.says("if the screen has up to 4096 cells");
        Terminal x = Terminal.written(43, 132);
        x.send(245, 2, 17, 7, 126, 29, 1, 193, 17, 7, 127, 19);
        CHECKS.due("the small one in use", sentBy(x, 1).waiting(), 125, 93, 127, 17, 93, 127, 193, 255, 239);
        x.send(126, 2, 17, 7, 127, 19);
        CHECKS.due("all of it again", sentBy(x, 1).waiting(), 125, 7, 127, 255, 239);
    }

    private static void theLongestOne() {
        CHECKS.says("then for 242 all cells");
        Terminal x = Terminal.written(43, 132, 60, 0, 0, 255);
        x.send(242);
        CHECKS.due("bytes", x.inbound(), 3 + 2 * 5676 + 2);
        CHECKS.due("the last of a pair", x.octet(3 + 2 * 5676 - 1), (byte) 255);
        CHECKS.due("the mark", x.octet(3 + 2 * 5676), (byte) 255);
        CHECKS.due("the end", x.octet(3 + 2 * 5676 + 1), (byte) 239);
        CHECKS.due("behind the end", x.octetThrows(3 + 2 * 5676 + 2), true);
        x.key(1);
        CHECKS.due("bytes of all signs", x.inbound(), 3 + 2 * 5676 + 2);
    }
}
