/** Promise 2: streams to the terminal: their ends, commands, control and rejects. */
final class OutTest {
    private static final Checks CHECKS = new Checks();

    public static void main(String[] args) {
        doneAtTheEnd();
        marks();
        longStreams();
        commands();
        writesWithoutControl();
        control();
        eraseOpen();
        eraseOpenCursor();
        reads();
        rejects();
        CHECKS.finish();
    }

    private static void doneAtTheEnd() {
        BlockScreen x = new BlockScreen(2, 5);
        Host.raw(x, Host.WRITE);
        Host.raw(x, 6);
        Host.raw(x, 193);
        CHECKS.due("within a stream nothing is done", x.cell(0), 0);
        CHECKS.due("within a stream no alarm", x.count(3), 0);
        CHECKS.due("signs are no orders", Host.end(x), 1);
        CHECKS.due("at the end all is done", x.cell(0), 193);
        CHECKS.due("two orders", Host.send(x, Host.WRITE, 0, 17, 0, 3, 19), 3);
        CHECKS.due("the next stream counts anew", Host.send(x, Host.WRITE, 0, 19), 2);
        CHECKS.due("all kinds of orders", Host.send(x, Host.WRITE, 0,
            17, 0, 0, 29, 0, 41, 0, 17, 0, 0, 44, 0, 19, 5, 60, 0, 0, 0, 18, 0, 0, 8, 64), 11);
    }

    private static void marks() {
        BlockScreen x = new BlockScreen(1, 4);
        CHECKS.due("255 doubled", Host.send(x, Host.WRITE, 2, 255, 239, 193), 1);
        CHECKS.due("255 is one sign", Host.cells(x), 255, 239, 193, 0);
        Host.raw(x, Host.WRITE);
        Host.raw(x, 2);
        Host.raw(x, 194);
        Host.raw(x, 255);
        Host.raw(x, 1);
        CHECKS.due("a reject is not done ahead of the end", x.cell(0), 255);
        CHECKS.due("nor told", x.count(4), 0);
        CHECKS.due("nor locks it", x.locked(), false);
        Host.raw(x, 195);
        Host.raw(x, 255);
        Host.raw(x, 255);
        Host.raw(x, 239);
        CHECKS.due("255 and another", Host.end(x), BlockScreen.NONE);
        CHECKS.due("what came before is done", Host.cells(x), 194, 239, 193, 0);
        CHECKS.due("it is one reject", x.count(4), 1);
        CHECKS.due("it is locked", x.locked(), true);
        CHECKS.due("the next stream is whole", Host.send(x, Host.WRITE, 2, 196), 1);
        CHECKS.due("and done", x.cell(0), 196);
        spoiledCommand(x, Host.READ_ALL);
        CHECKS.due("a spoiled read makes none", x.inbound(), 0);
        spoiledCommand(x, Host.ERASE_OPEN);
        CHECKS.due("a spoiled erase is done", x.cell(0), 0);
        CHECKS.due("but rejected", x.locked(), true);
    }

    private static void spoiledCommand(BlockScreen x, int command) {
        Host.raw(x, command);
        Host.raw(x, 255);
        Host.raw(x, 0);
        CHECKS.due("spoiled command " + command, Host.end(x), BlockScreen.NONE);
    }

    /** Beyond the calls that the document promises, so the answer is free, but the bound must hold. */
    private static void longStreams() {
        BlockScreen x = new BlockScreen(1, 4);
        int[] bytes = new int[8192];
        java.util.Arrays.fill(bytes, 193);
        bytes[0] = Host.WRITE;
        bytes[1] = 2;
        CHECKS.due("8192 bytes", Host.send(x, bytes), 1);
        CHECKS.due("are done", Host.cells(x), 193, 193, 193, 193);
        int[] more = java.util.Arrays.copyOf(bytes, 20000);
        java.util.Arrays.fill(more, 2, 8192, 194);
        java.util.Arrays.fill(more, 8192, more.length, 195);
        CHECKS.due("the 8193rd byte", Host.send(x, more), BlockScreen.NONE);
        CHECKS.due("is behind what came before", Host.cells(x), 194, 194, 194, 194);
    }

    private static void commands() {
        BlockScreen x = Host.written(30, 90, 29, 1, 193, 19);
        CHECKS.due("126 uses all rows", x.count(0), 30);
        CHECKS.due("126 uses all columns", x.count(1), 90);
        CHECKS.due("245", Host.send(x, Host.ERASE_WRITE, 0), 1);
        CHECKS.due("245 uses 24 rows", x.count(0), 24);
        CHECKS.due("245 uses 80 columns", x.count(1), 80);
        CHECKS.due("245 empties", Host.cells(x), new int[24 * 80]);
        CHECKS.due("245 leaves no fields", x.count(2), 0);
        CHECKS.due("245 brings the cursor to 0", x.cursor(), 0);
        Host.send(x, Host.WRITE, 0, 17, 0, 80, 194, 17, 7, 127, 195);
        CHECKS.due("241 stays small", x.count(0), 24);
        CHECKS.due("rows are 80 wide then", x.sign(1, 0), 194);
        CHECKS.due("the last of them", x.sign(23, 79), 195);
        CHECKS.due("126", Host.send(x, Host.ERASE_WRITE_ALL, 0), 1);
        CHECKS.due("126 comes back to all", x.count(0), 30);
        CHECKS.due("126 empties", Host.cells(x), new int[30 * 90]);
        BlockScreen narrow = Host.written(30, 20);
        Host.send(narrow, Host.ERASE_WRITE, 0);
        CHECKS.due("a narrow small screen's rows", narrow.count(0), 24);
        CHECKS.due("a narrow small screen's columns", narrow.count(1), 20);
        BlockScreen flat = Host.written(10, 100);
        Host.send(flat, Host.ERASE_WRITE, 0);
        CHECKS.due("a flat small screen's rows", flat.count(0), 10);
        CHECKS.due("a flat small screen's columns", flat.count(1), 80);
        for (int command = 0; command < 256; command++) {
            boolean known = command == 245 || command == 126 || command == 241 || command == 111
                || command == 242 || command == 246 || command == 110;
            if (!known) {
                CHECKS.due("command " + command, Host.send(x, command), BlockScreen.NONE);
            }
        }
        CHECKS.due("no command", Host.end(x), BlockScreen.NONE);
    }

    private static void writesWithoutControl() {
        for (int command : new int[] {Host.WRITE, Host.ERASE_WRITE, Host.ERASE_WRITE_ALL}) {
            BlockScreen x = Host.written(2, 3, 193, 194);
            CHECKS.due(command + " alone", Host.send(x, command), BlockScreen.NONE);
            CHECKS.due(command + " alone locks", x.locked(), true);
            CHECKS.due(command + " alone erases if it erases", x.cell(0), command == Host.WRITE ? 193 : 0);
        }
    }

    private static void control() {
        BlockScreen x = Host.written(2, 5, 29, 33, 193, 29, 1, 194);
        Host.send(x, Host.WRITE, 0);
        CHECKS.due("control 0 leaves it modified", x.modified(0) && x.modified(1), true);
        x.key(1);
        CHECKS.due("there is one to be sent", x.inbound() > 0, true);
        Host.send(x, Host.WRITE, 4);
        CHECKS.due("control 4 is an alarm", x.count(3), 1);
        CHECKS.due("without 2 it stays locked", x.locked(), true);
        CHECKS.due("and what waits stays", x.inbound() > 0, true);
        CHECKS.due("rejected", Host.send(x, Host.WRITE, 6, 1), BlockScreen.NONE);
        CHECKS.due("a reject behind the control has its alarm", x.count(3), 2);
        CHECKS.due("but frees nothing", x.locked(), true);
        CHECKS.due("and what waits stays then", x.inbound() > 0, true);
        Host.send(x, Host.WRITE, 192 + 2);
        CHECKS.due("control 2 frees it", x.locked(), false);
        CHECKS.due("control 2: what waits goes", x.inbound(), 0);
        CHECKS.due("only 1 resets modified", x.modified(0) && x.modified(1), true);
        Host.send(x, Host.WRITE, 1, 17, 0, 7, 29, 1);
        CHECKS.due("control 1 resets the protected one too", x.modified(0), false);
        CHECKS.due("control 1 resets", x.modified(1), false);
        CHECKS.due("but is ahead of all else", x.modified(2), true);
        CHECKS.due("control 1 keeps the other bits", x.field(0, 1), 32);
        CHECKS.due("no more alarms", x.count(3), 2);
    }

    private static void eraseOpen() {
        BlockScreen x = Host.written(2, 5, 193, 29, 33, 194, 29, 1, 195, 29, 17, 196, 197, 198, 19);
        x.key(1);
        CHECKS.due("it waits and is locked", x.inbound() > 0 && x.locked(), true);
        CHECKS.due("111", Host.send(x, Host.ERASE_OPEN), 1);
        CHECKS.due("111 empties", Host.cells(x), 0, 256 + 33, 194, 256, 0, 256 + 16, 0, 0, 0, 0);
        CHECKS.due("111 frees", x.locked(), false);
        CHECKS.due("111: what waits goes", x.inbound(), 0);
        CHECKS.due("bytes behind 111", Host.send(x, Host.ERASE_OPEN, 0), BlockScreen.NONE);
        CHECKS.due("lock it", x.locked(), true);
        Host.send(x, Host.WRITE, 0, 17, 0, 4, 199);
        CHECKS.due("bytes behind 111 again", Host.send(x, Host.ERASE_OPEN, 2), BlockScreen.NONE);
        CHECKS.due("when that is done", x.cell(4), 0);
        CHECKS.due("what was protected stays", x.cell(2), 194);
    }

    private static void eraseOpenCursor() {
        BlockScreen x = Host.written(1, 6, 29, 32, 193, 29, 0, 29, 0, 194, 195, 19);
        Host.send(x, Host.ERASE_OPEN);
        CHECKS.due("the first cell that is not protected", x.cursor(), 4);
        x = Host.written(1, 6, 29, 32, 193, 29, 33, 194, 195, 196, 19);
        Host.cursorTo(x, 4);
        Host.send(x, Host.ERASE_OPEN);
        CHECKS.due("0 without", x.cursor(), 0);
        CHECKS.due("nothing is emptied", Host.cells(x), 288, 193, 289, 194, 195, 196);
        x = Host.written(1, 4, 193, 194, 195, 19);
        Host.send(x, Host.ERASE_OPEN);
        CHECKS.due("without fields all are emptied", Host.cells(x), 0, 0, 0, 0);
        CHECKS.due("without fields the cursor is 0", x.cursor(), 0);
        x = Host.written(1, 4, 193, 194, 29, 0, 195);
        Host.cursorTo(x, 3);
        Host.send(x, Host.ERASE_OPEN);
        CHECKS.due("a field goes round the end", Host.cells(x), 0, 0, 256, 0);
        CHECKS.due("its lowest address is the first cell", x.cursor(), 0);
    }

    private static void reads() {
        BlockScreen x = Host.written(1, 3, 193);
        CHECKS.due("242", Host.send(x, Host.READ_ALL), 1);
        CHECKS.due("242 does not lock", x.locked(), false);
        CHECKS.due("242 makes one", Host.waiting(x), 96, 64, 64, 193, 0, 0, 255, 239);
        CHECKS.due("246", Host.send(x, Host.READ_MODIFIED), 1);
        CHECKS.due("246 makes one", Host.waiting(x), 96, 64, 64, 193, 255, 239);
        Host.send(x, Host.READ_ALL);
        CHECKS.due("110", Host.send(x, 110), 1);
        CHECKS.due("110 is as 246", Host.waiting(x), 96, 64, 64, 193, 255, 239);
        for (int command : new int[] {Host.READ_ALL, Host.READ_MODIFIED, 110}) {
            x = Host.written(1, 3, 193);
            CHECKS.due(command + " with a byte", Host.send(x, command, 0), BlockScreen.NONE);
            CHECKS.due(command + " with a byte makes none", x.inbound(), 0);
            CHECKS.due(command + " with a byte locks", x.locked(), true);
        }
        Host.send(x, Host.READ_ALL);
        CHECKS.due("a read leaves a locked one locked", x.locked(), true);
        Host.send(x, Host.READ_MODIFIED, 64);
        CHECKS.due("a rejected read leaves what waits", x.inbound(), 8);
    }

    private static void rejects() {
        BlockScreen x = Host.written(1, 4);
        CHECKS.due("free", x.locked(), false);
        CHECKS.due("a reject", Host.send(x, Host.WRITE, 2, 193, 1, 194), BlockScreen.NONE);
        CHECKS.due("what was done stays, the rest is passed over", Host.cells(x), 193, 0, 0, 0);
        CHECKS.due("locked by it", x.locked(), true);
        CHECKS.due("rejects", x.count(4), 1);
        CHECKS.due("another", Host.send(x, 1), BlockScreen.NONE);
        CHECKS.due("rejects then", x.count(4), 2);
    }
}
