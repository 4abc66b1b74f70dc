/** Commands 242, 246 and 110: reads. */
final class ReadsTest {
    private static final Checks CHECKS = new Checks();
    private static final int[] READS = {242, 246, 110};

    public static void main(String[] args) {
        all();
        modified();
        asModified();
        nothingButTheEnd();
        noneIsMade();
        latestKey();
        latestKeyThatSendsShortly();
        withoutAKey();
        nothingElseChanges();
        theNewerOneStays();
        CHECKS.finish();
    }

    private static void all() {
        CHECKS.says("242 READ all");
        Terminal x = Terminal.written(1, 4, 29, 0, 193, 29, 1);
        CHECKS.due("242", x.send(242), 1);
        CHECKS.due("sent", x.waiting(), 96, 64, 64, 29, 0, 193, 29, 1, 0, 255, 239);
    }

    private static void modified() {
        CHECKS.says("246 READ what is modified");
        Terminal x = Terminal.written(1, 6, 29, 0, 193, 29, 1, 194, 0, 195);
        CHECKS.due("246", x.send(246), 1);
        CHECKS.due("sent", x.waiting(), 96, 64, 64, 17, 64, 67, 194, 195, 255, 239);
    }

    private static void asModified() {
        CHECKS.says("110 as 246");
        Terminal x = Terminal.written(1, 6, 29, 0, 193, 29, 1, 194, 0, 195);
        CHECKS.due("110", x.send(110), 1);
        CHECKS.due("sent", x.waiting(), 96, 64, 64, 17, 64, 67, 194, 195, 255, 239);
    }

    private static void nothingButTheEnd() {
        CHECKS.says("(if nothing but the end follows; else a reject");
        for (int command : READS) {
            for (int b : new int[] {0, 2, 64, 239, 255}) {
                Terminal x = Terminal.written(1, 3, 193);
                CHECKS.due(command + " and " + b, x.send(command, b), Terminal.NONE);
                CHECKS.due(command + " and " + b + ": locked", x.locked(), true);
                CHECKS.due(command + " and " + b + ": rejects", x.count(4), 1);
            }
        }
    }

    private static void noneIsMade() {
        CHECKS.says("and none is made)");
        for (int command : READS) {
            Terminal x = Terminal.written(1, 3, 193);
            x.send(command, 0);
            CHECKS.due(command + ": inbound", x.inbound(), 0);
            x.key(51);
            x.key(1);
            x.send(command, 0);
            CHECKS.due(command + ": what waited stays", x.waiting(), 125, 64, 64, 193, 255, 239);
        }
    }

    private static void latestKey() {
        CHECKS.says("a stream is there to be sent, as by the key pressed latest that sends");
        Terminal x = Terminal.written(1, 3, 193);
        x.key(1);
        x.send(241, 2);
        x.key(22);
        x.key(11);
        x.send(241, 2);
        x.key(45);
        x.key(3 + 100);
        x.send(242);
        CHECKS.due("242", x.waiting(), 124, 64, 65, 193, 0, 0, 255, 239);
        x.send(246);
        CHECKS.due("246", x.waiting(), 124, 64, 65, 193, 255, 239);
        x.send(110);
        CHECKS.due("110", x.waiting(), 124, 64, 65, 193, 255, 239);
        CHECKS.due("the latest stays", x.count(6), 124);
    }

    private static void latestKeyThatSendsShortly() {
        CHECKS.says("Of a key that sends shortly: its byte alone");
        int[] codes = {2, 3, 4, 5};
        int[] bytes = {109, 108, 110, 107};
        for (int i = 0; i < codes.length; i++) {
            Terminal x = Terminal.written(1, 3, 193);
            x.key(codes[i]);
            for (int command : READS) {
                x.send(241, 2, 193);
                x.send(command);
                CHECKS.due(command + " behind key " + codes[i], x.waiting(), bytes[i], 255, 239);
            }
        }
    }

    private static void withoutAKey() {
        CHECKS.says("(96 without)");
        for (int command : READS) {
            Terminal x = new Terminal(1, 2);
            x.key(1);
            CHECKS.due("command " + command, x.send(command), 1);
            CHECKS.due("its first byte behind a locked key", x.octet(0), 96);
        }
    }

    private static void nothingElseChanges() {
        CHECKS.says("a stream is there to be sent");
        for (int command : READS) {
            Terminal x = Terminal.written(1, 4, 29, 1, 193);
            x.cursorTo(2);
            x.send(command);
            CHECKS.due(command + " leaves it free", x.locked(), false);
            CHECKS.due(command + " leaves the cells", x.cells(), 257, 193, 0, 0);
            CHECKS.due(command + " leaves the cursor", x.cursor(), 2);
            x.key(1);
            x.send(command);
            CHECKS.due(command + " leaves it locked", x.locked(), true);
        }
    }

    private static void theNewerOneStays() {
        CHECKS.says("a stream is there to be sent");
        Terminal x = Terminal.written(1, 3, 193, 194, 195);
        x.send(242);
        x.send(245, 0);
        CHECKS.due("what waits stays as it was made", x.waiting(), 96, 64, 64, 193, 194, 195, 255, 239);
        x.send(246);
        CHECKS.due("another takes its place", x.waiting(), 96, 64, 64, 255, 239);
    }
}
