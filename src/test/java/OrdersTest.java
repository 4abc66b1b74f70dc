/** The orders 17, 29, 41, 44, 19 and 8, bytes that are no orders, and bytes that lack. */
final class OrdersTest {
    private static final Checks CHECKS = new Checks();

    public static void main(String[] args) {
        addressOrder();
        fieldOrder();
        pairsOrder();
        pairsOrderCounts();
        pairsOrderThatLacks();
        changeOrder();
        changeOrderWithoutThePair();
        changeOrderWhereNoneIs();
        cursorOrder();
        signOrder();
        signOrderWithNoSign();
        otherBytes();
        bytesThatLack();
        nothingLeftOverFromAReject();
        CHECKS.finish();
    }

    private static void addressOrder() {
        CHECKS.says("17 a a: the place becomes that address");
        Terminal x = Terminal.written(2, 3);
        CHECKS.due("17", x.send(241, 0, 193, 17, 0, 5, 194, 17, 0, 0, 195, 17, 0, 3, 19), 5);
        CHECKS.due("cells", x.cells(), 195, 0, 0, 0, 0, 194);
        CHECKS.due("the place", x.cursor(), 3);
    }

    private static void fieldOrder() {
        CHECKS.says("29 b: an attribute b in the cell at the place, which goes on");
        for (int b = 0; b < 256; b++) {
            Terminal x = Terminal.written(1, 3, 193, 194, 195);
            CHECKS.due("29 " + b, x.send(241, 0, 29, b, 19), 3);
            CHECKS.due("cells by 29 " + b, x.cells(), 256 + b, 194, 195);
            CHECKS.due("the place behind 29 " + b, x.cursor(), 1);
            CHECKS.due("fields by 29 " + b, x.count(2), 1);
        }
        Terminal x = Terminal.written(1, 3, 29, 5, 29, 6, 29, 7, 29, 8, 19);
        CHECKS.due("over another, round", x.cells(), 256 + 8, 256 + 6, 256 + 7);
        CHECKS.due("fields", x.count(2), 3);
        CHECKS.due("the place", x.cursor(), 1);
    }

    private static void pairsOrder() {
        CHECKS.says("41 n, n pairs t v: likewise, the attribute 0, or v of a pair with t = 192");
        Terminal x = Terminal.written(1, 8,
            41, 0, 41, 1, 192, 33, 41, 2, 66, 240, 192, 16, 41, 1, 65, 7, 41, 2, 192, 255, 193, 9, 19);
        CHECKS.due("cells", x.cells(), 256, 256 + 33, 256 + 16, 256, 256 + 255, 0, 0, 0);
        CHECKS.due("the place goes on", x.cursor(), 5);
        for (int kind = 0; kind < 256; kind++) {
            x = Terminal.written(1, 2, 193);
            CHECKS.due("41 1 " + kind + " 5", x.send(241, 0, 41, 1, kind, 5, 194), 2);
            CHECKS.due("its cells", x.cells(), 256 + (kind == 192 ? 5 : 0), 194);
        }
        x = Terminal.written(1, 2, 193);
        CHECKS.due("a second one", x.send(241, 0, 41, 2, 192, 5, 192, 6), 2);
        CHECKS.due("the last counts", x.cell(0), 256 + 6);
        x = Terminal.written(1, 1, 41, 1, 192, 1);
        CHECKS.due("in the last cell", x.cells(), 257);
    }

    private static void pairsOrderCounts() {
        CHECKS.says("41 n, n pairs t v");
        int[] many = new int[2 + 2 * 200];
        many[0] = 41;
        many[1] = 200;
        for (int n = 0; n < 200; n++) {
            many[2 + 2 * n] = 192;
            many[3 + 2 * n] = n;
        }
        Terminal x = new Terminal(1, 2);
        CHECKS.due("200 pairs", x.sendWith(241, 0, many), 2);
        CHECKS.due("cells", x.cells(), 256 + 199, 0);
        x = Terminal.written(1, 3);
        CHECKS.due("pairs are no signs", x.send(241, 0, 41, 1, 193, 194, 195), 2);
        CHECKS.due("cells behind one pair", x.cells(), 256, 195, 0);
    }

    private static void pairsOrderThatLacks() {
        CHECKS.says("bytes that lack: a reject");
        Terminal x = Terminal.written(1, 3, 193);
        CHECKS.due("half a pair", x.send(241, 0, 41, 2, 192, 1, 192), Terminal.NONE);
        CHECKS.due("a pair too few", x.send(241, 0, 41, 2, 192, 1), Terminal.NONE);
        CHECKS.due("255 pairs and none", x.send(241, 0, 41, 255), Terminal.NONE);
        CHECKS.due("128 pairs and one", x.send(241, 0, 41, 128, 192, 1), Terminal.NONE);
        CHECKS.due("no number", x.send(241, 0, 41), Terminal.NONE);
        CHECKS.due("cells", x.cells(), 193, 0, 0);
        CHECKS.due("just enough", x.send(241, 0, 41, 2, 192, 1, 192, 3), 2);
        CHECKS.due("its cells", x.cells(), 256 + 3, 0, 0);
    }

    private static void changeOrder() {
        CHECKS.says("44 n, n pairs: the attribute at the place becomes v of a pair with t = 192 .., the place goes on");
        Terminal x = Terminal.written(1, 4, 29, 5, 29, 6, 193);
        CHECKS.due("44", x.send(241, 0, 17, 0, 0, 44, 1, 192, 33, 44, 2, 65, 9, 192, 255, 19), 5);
        CHECKS.due("cells", x.cells(), 256 + 33, 256 + 255, 193, 0);
        CHECKS.due("the place", x.cursor(), 2);
        CHECKS.due("fields", x.count(2), 2);
        x = Terminal.written(1, 4, 193, 17, 0, 3, 29, 5);
        x.send(241, 0, 17, 0, 3, 44, 1, 192, 0, 19);
        CHECKS.due("in the last cell", x.cells(), 193, 0, 0, 256);
        CHECKS.due("the place goes round", x.cursor(), 0);
    }

    private static void changeOrderWithoutThePair() {
        CHECKS.says("44 n, n pairs: the attribute at the place becomes v of a pair with t = 192");
        for (int kind = 0; kind < 256; kind++) {
            Terminal x = Terminal.written(1, 3, 29, 7, 193);
            CHECKS.due("44 1 " + kind + " 9", x.send(241, 0, 44, 1, kind, 9, 194), 2);
            CHECKS.due("its cells", x.cells(), 256 + (kind == 192 ? 9 : 7), 194, 0);
        }
        Terminal x = Terminal.written(1, 3, 29, 7, 193);
        CHECKS.due("44 0", x.send(241, 0, 44, 0, 194), 2);
        CHECKS.due("its cells", x.cells(), 256 + 7, 194, 0);
    }

    private static void changeOrderWhereNoneIs() {
        CHECKS.says("(a reject if it is none)");
        Terminal x = Terminal.written(1, 4, 29, 5, 193);
        CHECKS.due("at a sign", x.send(241, 2, 17, 0, 1, 44, 1, 192, 33, 200), Terminal.NONE);
        CHECKS.due("at an empty cell", x.send(241, 2, 17, 0, 3, 44, 1, 192, 33, 200), Terminal.NONE);
        CHECKS.due("with no pairs", x.send(241, 2, 17, 0, 3, 44, 0), Terminal.NONE);
        CHECKS.due("cells", x.cells(), 256 + 5, 193, 0, 0);
        CHECKS.due("locked", x.locked(), true);
        x = Terminal.written(1, 4);
        CHECKS.due("without fields", x.send(241, 2, 44, 1, 192, 33), Terminal.NONE);
        CHECKS.due("fields", x.count(2), 0);
    }

    private static void cursorOrder() {
        CHECKS.says("19: the cursor comes to the place");
        Terminal x = Terminal.written(2, 3, 193, 19, 194, 195);
        CHECKS.due("cursor", x.cursor(), 1);
        x.send(241, 0, 17, 0, 5, 19, 200, 201);
        CHECKS.due("in the last cell", x.cursor(), 5);
        CHECKS.due("the place stays", x.cells(), 201, 194, 195, 0, 0, 200);
        x.send(241, 0, 17, 0, 2, 19, 17, 0, 4, 19, 17, 0, 3);
        CHECKS.due("the last one counts", x.cursor(), 4);
        x.send(241, 0, 17, 0, 0, 29, 32, 17, 0, 0, 19);
        CHECKS.due("onto an attribute", x.cursor(), 0);
    }

    private static void signOrder() {
        CHECKS.says("8 s: sign s");
        Terminal x = Terminal.written(1, 5, 8, 64, 8, 255, 8, 0, 8, 193, 19);
        CHECKS.due("cells", x.cells(), 64, 255, 0, 193, 0);
        CHECKS.due("the place goes on", x.cursor(), 4);
        x = Terminal.written(1, 2, 29, 5, 29, 6);
        CHECKS.due("over attributes", x.send(241, 0, 8, 0, 8, 193), 3);
        CHECKS.due("they are none any more", x.cells(), 0, 193);
        CHECKS.due("fields", x.count(2), 0);
    }

    private static void signOrderWithNoSign() {
        CHECKS.says("A sign is any byte from 64 on, or 0");
        for (int b = 1; b < 64; b++) {
            Terminal x = Terminal.written(1, 2, 193);
            CHECKS.due("8 " + b, x.send(241, 0, 8, b), Terminal.NONE);
            CHECKS.due("60 0 1 " + b, x.send(241, 0, 60, 0, 1, b), Terminal.NONE);
            CHECKS.due("cells", x.cells(), 193, 0);
        }
    }

    private static void otherBytes() {
        CHECKS.says("Other bytes below 64 but 0 ..: a reject");
        for (int code = 1; code < 64; code++) {
            boolean known = code == 17 || code == 29 || code == 41 || code == 44 || code == 19 || code == 5
                || code == 60 || code == 18 || code == 8;
            Terminal x = Terminal.written(1, 6, 29, 7, 193, 194);
            int answer = x.send(241, 2, code, 0, 0, 0);
            CHECKS.due("order " + code, answer, known ? 2 : Terminal.NONE);
            CHECKS.due("order " + code + ": locked", x.locked(), !known);
            CHECKS.due("order " + code + ": rejects", x.count(4), known ? 0 : 1);
            if (!known) {
                CHECKS.due("order " + code + ": cells", x.cells(), 256 + 7, 193, 194, 0, 0, 0);
            }
        }
    }

    private static void bytesThatLack() {
        CHECKS.says("bytes that lack: a reject");
        int[][] cut = {{17}, {17, 0}, {17, 64}, {29}, {41}, {41, 1}, {41, 1, 192}, {44}, {44, 1}, {44, 1, 192},
            {60}, {60, 0}, {60, 0, 1}, {18}, {18, 0}, {8}};
        for (int[] order : cut) {
            Terminal x = Terminal.written(1, 3, 29, 7, 193, 194);
            String name = java.util.Arrays.toString(order);
            CHECKS.due(name, x.sendWith(241, 2, order), Terminal.NONE);
            CHECKS.due(name + ": cells", x.cells(), 256 + 7, 193, 194);
            CHECKS.due(name + ": locked", x.locked(), true);
            CHECKS.due(name + ": rejects", x.count(4), 1);
        }
    }

    private static void nothingLeftOverFromAReject() {
        CHECKS.says("A reject ends the stream");
        Terminal x = Terminal.written(1, 4, 193);
        x.send(241, 2, 17, 0, 2, 17, 0);
        CHECKS.due("the next one begins anew", x.send(241, 2, 194), 1);
        CHECKS.due("at the cursor", x.cells(), 194, 0, 0, 0);
    }
}
