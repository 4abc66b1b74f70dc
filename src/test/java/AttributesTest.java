/** ATTRIBUTES of the terms: every attribute byte, and where fields begin and end. */
final class AttributesTest {
    private static final Checks CHECKS = new Checks();

    public static void main(String[] args) {
        for (int b = 0; b < 256; b++) {
            protectedBit(b);
            numericBit(b);
            skippedBits(b);
            hiddenBits(b);
            modifiedBit(b);
            otherBitsAreKept(b);
        }
        fieldsBetweenAttributes();
        fieldsRoundTheEnd();
        withoutAny();
        cellsAttribute();
        CHECKS.finish();
    }

    private static void protectedBit(int b) {
        CHECKS.says("32 PROTECTED");
        boolean open = (b & 32) == 0;
        Terminal x = Terminal.written(1, 4, 29, b);
        x.cursorTo(1);
        CHECKS.due("typing with attribute " + b, x.type(241), open ? 1 : 0);
        CHECKS.due("the cell with attribute " + b, x.cell(1), open ? 241 : 0);
        CHECKS.due("locked with attribute " + b, x.locked(), !open);
    }

    private static void numericBit(int b) {
        CHECKS.says("16 NUMERIC");
        Terminal x = Terminal.written(1, 4, 29, b);
        x.cursorTo(1);
        CHECKS.due("typing a letter with attribute " + b, x.type(193), (b & 48) == 0 ? 1 : 0);
    }

    private static void skippedBits(int b) {
        CHECKS.says("both: SKIPPED");
        Terminal x = Terminal.written(1, 6, 29, 0, 0, 29, b, 0, 29, 0);
        x.cursorTo(1);
        x.type(241);
        CHECKS.due("the cursor behind typing ahead of attribute " + b, x.cursor(), (b & 48) == 48 ? 5 : 3);
        x = Terminal.written(1, 6, 29, 0, 0, 29, b, 29, 0);
        x.cursorTo(1);
        x.type(241);
        CHECKS.due("the same with an attribute behind " + b, x.cursor(), (b & 48) == 48 ? 4 : 3);
    }

    private static void hiddenBits(int b) {
        CHECKS.says("12 both: HIDDEN");
        Terminal x = Terminal.written(1, 3, 29, b | 1, 193);
        CHECKS.due("the sign with attribute " + (b | 1), x.sign(0, 1), 193);
        x.key(1);
        CHECKS.due("sent with attribute " + (b | 1), x.waiting(), 125, 64, 64, 17, 64, 65, 193, 255, 239);
    }

    private static void modifiedBit(int b) {
        CHECKS.says("1 MODIFIED");
        Terminal x = Terminal.written(1, 3, 29, b, 193);
        CHECKS.due("modified with attribute " + b, x.modified(0), b % 2 == 1);
        x.key(1);
        CHECKS.due("bytes sent with attribute " + b, x.inbound(), b % 2 == 1 ? 9 : 5);
    }

    private static void otherBitsAreKept(int b) {
        CHECKS.says("other bits are kept");
        Terminal x = Terminal.written(1, 4, 29, b, 193);
        CHECKS.due("the attribute " + b, x.cell(0), 256 + b);
        x.send(241, 3, 17, 0, 1, 19);
        CHECKS.due("attribute " + b + " not modified any more", x.cell(0), 256 + (b & 254));
        boolean typed = x.type(241) == 1;
        CHECKS.due("attribute " + b + " behind typing", x.cell(0), 256 + (typed ? b | 1 : b & 254));
        x.send(111);
        CHECKS.due("attribute " + b + " behind 111", x.cell(0), 256 + (b & 254));
    }

    private static void fieldsBetweenAttributes() {
        CHECKS.says("A FIELD is what lies behind an attribute up to the next one");
        Terminal x = Terminal.written(1, 8, 29, 0, 193, 0, 29, 1, 29, 2, 194, 29, 3);
        CHECKS.due("fields", x.count(2), 4);
        CHECKS.due("cells of the first", x.field(0, 2), 2);
        CHECKS.due("cells of one with none", x.field(1, 2), 0);
        CHECKS.due("cells of the third", x.field(2, 2), 1);
        CHECKS.due("cells of the last", x.field(3, 2), 1);
    }

    private static void fieldsRoundTheEnd() {
        CHECKS.says("round the end");
        Terminal x = Terminal.written(2, 3, 193, 194, 29, 5, 195, 29, 6, 196);
        CHECKS.due("cells of the last field", x.field(1, 2), 3);
        CHECKS.due("signs of the last field", x.field(1, 3), 3);
        CHECKS.due("attribute of the first cell", x.attribute(0, 0), 6);
        x = Terminal.written(2, 3, 193, 194, 29, 5, 195);
        CHECKS.due("cells of one field alone", x.field(0, 2), 5);
        CHECKS.due("attribute ahead of it", x.attribute(0, 1), 5);
        CHECKS.due("attribute behind it", x.attribute(1, 2), 5);
        x = Terminal.written(1, 1, 29, 4);
        CHECKS.due("cells where all is one attribute", x.field(0, 2), 0);
        x = Terminal.written(1, 4, 0, 0, 0, 29, 32);
        CHECKS.due("typing in the first cell of a protected field round the end", x.type(193), 0);
    }

    private static void withoutAny() {
        CHECKS.says("without any attribute there is none, all cells may be typed in");
        Terminal x = Terminal.written(2, 3);
        CHECKS.due("fields", x.count(2), 0);
        CHECKS.due("the first field", x.field(0, 0), Terminal.NONE);
        for (int at = 0; at < 6; at++) {
            CHECKS.due("typing at " + at, x.type(65 + at), 1);
        }
        CHECKS.due("typed", x.cells(), 65, 66, 67, 68, 69, 70);
        x.send(241, 2, 29, 32);
        CHECKS.due("typing with one", x.type(193), 0);
        x.send(241, 2, 17, 0, 0, 193);
        CHECKS.due("typing when it is gone", x.type(194), 1);
    }

    private static void cellsAttribute() {
        CHECKS.says("A cell's attribute is that of its field (an attribute's its own)");
        Terminal x = Terminal.written(1, 6, 0, 29, 32, 0, 29, 16, 29, 3);
        int[] want = {3, 256 + 32, 32, 256 + 16, 256 + 3, 3};
        for (int at = 0; at < want.length; at++) {
            CHECKS.due("attribute at " + at, x.attribute(0, at), want[at]);
        }
    }
}
