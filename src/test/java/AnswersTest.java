/** Promises 3, 4 and 7 to 14: what is told of the state, and what calls from outside it answer. */
final class AnswersTest {
    private static final Checks CHECKS = new Checks();
    private static final int LOW = Integer.MIN_VALUE;
    private static final int HIGH = Integer.MAX_VALUE;

    public static void main(String[] args) {
        sign();
        signOutside();
        attribute();
        attributeWithoutFields();
        attributeOutside();
        inbound();
        octet();
        octetOutside();
        field();
        fieldOthers();
        cursor();
        locked();
        modified();
        modifiedWithout();
        cell();
        cellOutside();
        counts();
        countsOfFields();
        countOthers();
        tellingChangesNothing();
        CHECKS.finish();
    }

    private static void sign() {
        CHECKS.says("The sign of a cell; NONE for an attribute");
        Terminal x = Terminal.written(2, 3, 193, 29, 0, 255, 29, 255, 64);
        CHECKS.due("a sign", x.sign(0, 0), 193);
        CHECKS.due("attribute 0", x.sign(0, 1), Terminal.NONE);
        CHECKS.due("sign 255", x.sign(0, 2), 255);
        CHECKS.due("attribute 255", x.sign(1, 0), Terminal.NONE);
        CHECKS.due("sign 64", x.sign(1, 1), 64);
        CHECKS.due("empty", x.sign(1, 2), 0);
    }

    private static final int[][] OUTSIDE = {{-1, 0}, {0, -1}, {-1, -1}, {30, 0}, {0, 100}, {30, 100}, {LOW, 0},
        {0, LOW}, {HIGH, 0}, {0, HIGH}, {HIGH, HIGH}, {LOW, LOW}, {1, -1}, {-1, 100}, {1 << 30, 4}};

    private static void signOutside() {
        CHECKS.says("-2 outside the screen in use");
        Terminal x = Terminal.written(30, 100, 60, 0, 0, 193);
        for (int[] at : OUTSIDE) {
            CHECKS.due("sign(" + at[0] + ", " + at[1] + ")", x.sign(at[0], at[1]), -2);
        }
        CHECKS.due("the last", x.sign(29, 99), 193);
        x.send(245, 0, 60, 0, 0, 193);
        CHECKS.due("behind the small one's rows", x.sign(24, 0), -2);
        CHECKS.due("behind its columns", x.sign(0, 80), -2);
        CHECKS.due("its last", x.sign(23, 79), 193);
    }

    private static void attribute() {
        CHECKS.says("The attribute of a cell's field (256 more where it lies itself)");
        Terminal x = Terminal.written(2, 4, 193, 29, 240, 194, 255, 29, 33, 0, 29, 0);
        int[] want = {0, 256 + 240, 240, 240, 256 + 33, 33, 256, 0};
        for (int at = 0; at < want.length; at++) {
            CHECKS.due("attribute at " + at, x.attribute(at / 4, at % 4), want[at]);
        }
    }

    private static void attributeWithoutFields() {
        CHECKS.says("NONE without fields");
        Terminal x = Terminal.written(1, 2, 193);
        CHECKS.due("of a sign", x.attribute(0, 0), Terminal.NONE);
        CHECKS.due("of an empty cell", x.attribute(0, 1), Terminal.NONE);
        x.send(241, 0, 29, 1);
        CHECKS.due("with one", x.attribute(0, 1), 1);
        x.send(241, 0, 194);
        CHECKS.due("when it is gone", x.attribute(0, 1), Terminal.NONE);
    }

    private static void attributeOutside() {
        CHECKS.says("-2 outside");
        Terminal x = Terminal.written(30, 100, 29, 5);
        for (int[] at : OUTSIDE) {
            CHECKS.due("attribute(" + at[0] + ", " + at[1] + ")", x.attribute(at[0], at[1]), -2);
        }
        CHECKS.due("the last", x.attribute(29, 99), 5);
        x.send(245, 0);
        CHECKS.due("behind the small one's rows", x.attribute(24, 0), -2);
        CHECKS.due("behind its columns", x.attribute(0, 80), -2);
        CHECKS.due("its last, without fields", x.attribute(23, 79), Terminal.NONE);
    }

    private static void inbound() {
        CHECKS.says("How many bytes wait to be sent; 0 when none");
        Terminal x = Terminal.written(1, 2, 255);
        CHECKS.due("none", x.inbound(), 0);
        x.key(1);
        CHECKS.due("the end and doubled ones too", x.inbound(), 7);
        CHECKS.due("asked again", x.inbound(), 7);
        x.send(241, 2);
        CHECKS.due("none any more", x.inbound(), 0);
        x.key(3);
        CHECKS.due("a short one", x.inbound(), 3);
    }

    private static void octet() {
        CHECKS.says("One of them");
        Terminal x = Terminal.written(1, 2, 193, 65);
        x.key(11);
        byte[] want = {-15, 64, 64, -63, 65, -1, -17};
        for (int i = 0; i < want.length; i++) {
            CHECKS.due("octet " + i, x.octet(i), want[i]);
        }
    }

    private static void octetOutside() {
        CHECKS.says("ArrayIndexOutOfBoundsException when there is none such");
        Terminal x = Terminal.written(1, 2, 193);
        CHECKS.due("the first of none", x.octetThrows(0), true);
        CHECKS.due("one ahead of none", x.octetThrows(-1), true);
        x.key(1);
        CHECKS.due("the last", x.octetThrows(5), false);
        CHECKS.due("behind the last", x.octetThrows(6), true);
        CHECKS.due("far behind it", x.octetThrows(63), true);
        CHECKS.due("ahead of the first", x.octetThrows(-1), true);
        CHECKS.due("far off", x.octetThrows(LOW) && x.octetThrows(HIGH), true);
        CHECKS.due("it still waits", x.inbound(), 6);
        x.key(51);
        x.key(3);
        CHECKS.due("behind a shorter one", x.octetThrows(3), true);
        CHECKS.due("the last of a shorter one", x.octetThrows(2), false);
        x.send(111);
        CHECKS.due("the first of one that went", x.octetThrows(0), true);
    }

    private static void field() {
        CHECKS.says("what = 0 its attribute's address, 1 the attribute, 2 how many cells it has, "
            + "3 signs that are not empty");
        Terminal x = Terminal.written(2, 5, 193, 29, 33, 194, 0, 29, 224, 29, 16, 195, 0, 196);
        fieldIs(x, 0, 1, 33, 2, 1);
        fieldIs(x, 1, 4, 224, 0, 0);
        fieldIs(x, 2, 5, 16, 5, 3);
        fieldIs(Terminal.written(2, 3, 193, 194, 29, 255, 195), 0, 2, 255, 5, 3);
        fieldIs(Terminal.written(1, 1, 29, 4), 0, 0, 4, 0, 0);
        fieldIs(Terminal.written(1, 3, 0, 193, 29, 0), 0, 2, 0, 2, 1);
        x = Terminal.written(43, 132, 29, 0, 60, 0, 0, 193, 29, 7, 60, 0, 0, 255);
        fieldIs(x, 0, 0, 7, 5675, 5675);
    }

    private static void fieldIs(Terminal x, int i, int... want) {
        for (int what = 0; what < 4; what++) {
            CHECKS.due("field(" + i + ", " + what + ")", x.field(i, what), want[what]);
        }
    }

    private static void fieldOthers() {
        CHECKS.says("NONE for others");
        Terminal x = Terminal.written(2, 3, 29, 1, 193, 29, 2);
        int[][] calls = {{-1, 0}, {2, 0}, {2, 1}, {2, 2}, {2, 3}, {0, -1}, {0, 4}, {1, -1}, {1, 4}, {HIGH, 2},
            {LOW, 2}, {0, HIGH}, {0, LOW}, {-1, -1}, {2, 4}};
        for (int[] call : calls) {
            CHECKS.due("field(" + call[0] + ", " + call[1] + ")", x.field(call[0], call[1]), Terminal.NONE);
        }
        for (int what = -1; what < 5; what++) {
            CHECKS.due("without fields " + what, new Terminal(2, 3).field(0, what), Terminal.NONE);
        }
    }

    private static void cursor() {
        CHECKS.says("The cursor's address");
        Terminal x = Terminal.written(2, 3);
        CHECKS.due("at first", x.cursor(), 0);
        x.type(193);
        CHECKS.due("behind a sign", x.cursor(), 1);
        x.key(47);
        CHECKS.due("below", x.cursor(), 4);
        x.send(241, 0, 194, 195, 19);
        CHECKS.due("by the host", x.cursor(), 0);
        x.key(44);
        CHECKS.due("the last", x.cursor(), 5);
        x.send(241, 0, 17, 0, 2);
        CHECKS.due("an address alone leaves it", x.cursor(), 5);
    }

    private static void locked() {
        CHECKS.says("Whether the keyboard is locked");
        Terminal x = new Terminal(1, 3);
        CHECKS.due("at first", x.locked(), true);
        x.send(241, 2);
        CHECKS.due("free", x.locked(), false);
        x.key(5);
        CHECKS.due("locked", x.locked(), true);
    }

    private static void modified() {
        CHECKS.says("Whether the i-th field is modified");
        Terminal x = Terminal.written(1, 6, 29, 0, 193, 29, 33, 194, 29, 254);
        CHECKS.due("the first", x.modified(0), false);
        CHECKS.due("the second", x.modified(1), true);
        CHECKS.due("the third", x.modified(2), false);
        x.cursorTo(1);
        x.type(200);
        CHECKS.due("typed in", x.modified(0), true);
        x.send(241, 1);
        CHECKS.due("by control 1", x.modified(0) || x.modified(1) || x.modified(2), false);
    }

    private static void modifiedWithout() {
        CHECKS.says("false when there is none");
        Terminal x = Terminal.written(1, 4, 29, 1, 193, 29, 1);
        for (int i : new int[] {2, 3, -1, LOW, HIGH}) {
            CHECKS.due("modified(" + i + ")", x.modified(i), false);
        }
        x = Terminal.written(1, 4, 193, 65);
        CHECKS.due("without fields", x.modified(0) || x.modified(1) || x.modified(-1), false);
        x.type(193);
        CHECKS.due("typed without fields", x.modified(0), false);
    }

    private static void cell() {
        CHECKS.says("What an address has: a sign, 256 and an attribute");
        CHECKS.due("cells", Terminal.written(1, 5, 193, 29, 255, 0, 255, 29, 0).cells(), 193, 511, 0, 255, 256);
    }

    private static void cellOutside() {
        CHECKS.says("ArrayIndexOutOfBoundsException outside the screen in use");
        Terminal x = Terminal.written(30, 100);
        CHECKS.due("the first", x.cellThrows(0), false);
        CHECKS.due("the last", x.cellThrows(2999), false);
        CHECKS.due("behind the last", x.cellThrows(3000), true);
        CHECKS.due("ahead of the first", x.cellThrows(-1), true);
        CHECKS.due("far off", x.cellThrows(LOW) && x.cellThrows(HIGH), true);
        x.send(245, 0);
        CHECKS.due("the small one's last", x.cellThrows(1919), false);
        CHECKS.due("behind the small one's last", x.cellThrows(1920), true);
        CHECKS.due("the last of all", x.cellThrows(2999), true);
        x.send(126, 0);
        CHECKS.due("the last of all in use again", x.cellThrows(2999), false);
        CHECKS.due("one cell: the first", new Terminal(1, 1).cellThrows(0), false);
        CHECKS.due("one cell: the next", new Terminal(1, 1).cellThrows(1), true);
    }

    private static void counts() {
        CHECKS.says("what = 0 rows in use, 1 columns, 2 fields, 3 alarms, 4 streams that were rejected, "
            + "5 whether insert is on, 6 with what the latest key that sends does so (125 and so on; 96 without)");
        Terminal x = Terminal.written(30, 100, 29, 0, 29, 0);
        int[] first = {30, 100, 2, 0, 0, 0, 96};
        for (int what = 0; what < first.length; what++) {
            CHECKS.due("count(" + what + ") at first", x.count(what), first[what]);
        }
        x.send(241, 4, 17, 1, 0, 29, 0);
        x.send(241, 7);
        x.send(7);
        x.end();
        x.send(242, 7);
        x.key(51);
        x.key(50);
        x.key(20);
        int[] then = {30, 100, 3, 2, 3, 1, 122};
        for (int what = 0; what < then.length; what++) {
            CHECKS.due("count(" + what + ") then", x.count(what), then[what]);
        }
        x.send(245, 0);
        int[] last = {24, 80, 0, 2, 3, 1, 122};
        for (int what = 0; what < last.length; what++) {
            CHECKS.due("count(" + what + ") of the small one", x.count(what), last[what]);
        }
    }

    private static void countsOfFields() {
        CHECKS.says("2 fields");
        Terminal x = Terminal.written(1, 3, 29, 0, 29, 0, 29, 0);
        CHECKS.due("all attributes", x.count(2), 3);
        x.send(241, 0, 29, 5);
        CHECKS.due("one over another", x.count(2), 3);
        x.send(241, 0, 44, 1, 192, 7, 41, 0);
        CHECKS.due("changed ones", x.count(2), 3);
        x.send(241, 0, 193);
        CHECKS.due("a sign over one", x.count(2), 2);
        x.send(241, 0, 193, 0);
        CHECKS.due("an empty cell over one", x.count(2), 1);
        x.send(241, 0, 60, 0, 0, 0);
        CHECKS.due("none", x.count(2), 0);
    }

    private static void countOthers() {
        CHECKS.says("NONE for others");
        Terminal x = Terminal.written(2, 3);
        for (int what : new int[] {-2, -1, 7, 8, LOW, HIGH}) {
            CHECKS.due("count(" + what + ")", x.count(what), Terminal.NONE);
        }
    }

    private static void tellingChangesNothing() {
        CHECKS.says("Nothing is promised beyond the answers and state changes described above");
        Terminal x = Terminal.written(1, 4, 29, 1, 193);
        x.key(1);
        x.sign(0, 0);
        x.attribute(0, 0);
        x.field(0, 0);
        x.modified(0);
        x.octet(0);
        x.count(0);
        x.raw(241);
        CHECKS.due("within a stream, too", x.sign(0, 1), 193);
        CHECKS.due("cells", x.cells(), 257, 193, 0, 0);
        CHECKS.due("cursor", x.cursor(), 0);
        CHECKS.due("locked", x.locked(), true);
        CHECKS.due("what waits", x.waiting(), 125, 64, 64, 17, 64, 65, 193, 255, 239);
        CHECKS.due("the stream goes on", x.send(2, 200), 1);
        CHECKS.due("its cells", x.cells(), 200, 193, 0, 0);
    }
}
