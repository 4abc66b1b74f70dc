import java.util.Arrays;

/** Promise 2, and STREAMS to the terminal of the terms: their ends, their commands, their rejects. */
final class StreamsTest {
    private static final Checks CHECKS = new Checks();
    private static final int[] KNOWN = {245, 126, 241, 111, 242, 246, 110};

    public static void main(String[] args) {
        withinOne();
        behindItsEnd();
        whenRejected();
        doneWhenTheEndComes();
        doubled();
        markAndAnother();
        markAndAnotherCutsAnOrder();
        markAndAnotherBehindEachCommand();
        tooManyBytes();
        eraseAndWrite();
        eraseAndWriteAll();
        write();
        otherCommands();
        noCommand();
        rejectEndsTheStream();
        rejectPassesOver();
        rejectLocks();
        CHECKS.finish();
    }

    private static void withinOne() {
        CHECKS.says("The next byte of a stream: 0 within one");
        for (int b = 0; b < 256; b++) {
            Terminal x = new Terminal(1, 3);
            CHECKS.due("out " + b + " as the first", x.out(b), 0);
            if (b != 255) {
                CHECKS.due("the mark behind " + b, x.out(255), 0);
                CHECKS.due("the mark again", x.out(255), 0);
                CHECKS.due("239 behind a pair", x.out(239), 0);
            }
        }
    }

    private static void behindItsEnd() {
        CHECKS.says("behind its end 1 + the orders that were done in it");
        Terminal x = new Terminal(2, 5);
        CHECKS.due("no order and no sign", x.send(241, 0), 1);
        CHECKS.due("signs are no orders", x.send(241, 0, 193, 0, 255), 1);
        CHECKS.due("the next stream", x.send(241, 0, 19), 2);
        CHECKS.due("it counts anew", x.send(241, 0, 19, 193, 19), 3);
        CHECKS.due("each kind", x.send(241, 0, 17, 0, 0, 29, 0, 41, 0, 17, 0, 0, 44, 0, 19, 5, 60, 0, 0, 0,
            18, 0, 0, 8, 64), 11);
        CHECKS.due("111", x.send(111), 1);
        CHECKS.due("242", x.send(242), 1);
        CHECKS.due("246", x.send(246), 1);
        CHECKS.due("110", x.send(110), 1);
        CHECKS.due("245", x.send(245, 0, 19), 2);
        CHECKS.due("126", x.send(126, 0, 19, 19), 3);
    }

    private static void whenRejected() {
        CHECKS.says("NONE when it was rejected (told at its end)");
        Terminal x = Terminal.written(1, 3);
        x.raw(241, 2, 1, 193);
        CHECKS.due("locked ahead of its end", x.locked(), false);
        CHECKS.due("rejects ahead of its end", x.count(4), 0);
        CHECKS.due("the end", x.end(), Terminal.NONE);
        CHECKS.due("locked behind it", x.locked(), true);
        CHECKS.due("rejects behind it", x.count(4), 1);
        CHECKS.due("orders done ahead of the reject do not count", x.send(241, 2, 19, 19, 1), Terminal.NONE);
    }

    private static void doneWhenTheEndComes() {
        CHECKS.says("bytes up to 255 239, which are done when that comes");
        Terminal x = new Terminal(1, 3);
        x.raw(241, 2, 193, 239, 255);
        CHECKS.due("nothing ahead of it", x.cells(), 0, 0, 0);
        CHECKS.due("the end", x.out(239), 1);
        CHECKS.due("done; 239 alone is a sign", x.cells(), 193, 239, 0);
        x.raw(241);
        CHECKS.due("a stream of its own follows", x.send(0, 200), 1);
        CHECKS.due("it begins with its own command", x.cells(), 200, 239, 0);
    }

    private static void doubled() {
        CHECKS.says("within, 255 255 stands for one byte 255");
        Terminal x = new Terminal(1, 4);
        x.raw(241, 2, 255, 255, 239, 255, 255, 255, 255);
        CHECKS.due("the end", x.end(), 1);
        CHECKS.due("signs", x.cells(), 255, 239, 255, 255);
        x.raw(241, 2, 29, 255, 255);
        CHECKS.due("an attribute 255", x.end(), 2);
        CHECKS.due("is there", x.cell(0), 511);
        x = new Terminal(43, 132);
        x.raw(241, 2, 17, 0, 255, 255, 19, 41, 255, 255);
        CHECKS.due("255 pairs that lack", x.end(), Terminal.NONE);
        CHECKS.due("an address 255", x.cursor(), 255);
        x.raw(241, 255, 255);
        CHECKS.due("control 255", x.end(), 1);
        CHECKS.due("has an alarm", x.count(3), 1);
        x.raw(255, 255);
        CHECKS.due("a command 255", x.end(), Terminal.NONE);
    }

    private static void markAndAnother() {
        CHECKS.says("255 and another: a REJECT behind what came before");
        for (int b = 0; b < 255; b++) {
            if (b == 239) {
                continue;
            }
            Terminal x = Terminal.written(1, 3, 192);
            x.raw(241, 2, 194, 255, b, 195);
            CHECKS.due("255 and " + b + " ahead of the end", x.cell(0), 192);
            CHECKS.due("the end behind 255 and " + b, x.end(), Terminal.NONE);
            CHECKS.due("done with 255 and " + b, x.cells(), 194, 0, 0);
            CHECKS.due("rejects with 255 and " + b, x.count(4), 1);
            CHECKS.due("locked with 255 and " + b, x.locked(), true);
        }
    }

    private static void markAndAnotherCutsAnOrder() {
        CHECKS.says("255 and another: a REJECT behind what came before");
        Terminal x = Terminal.written(1, 3, 192);
        x.raw(241, 2, 19, 29, 255, 1, 0);
        CHECKS.due("an order without its byte", x.end(), Terminal.NONE);
        CHECKS.due("is not done", x.cells(), 192, 0, 0);
        x.raw(255, 1, 241, 2, 193);
        CHECKS.due("ahead of the command", x.end(), Terminal.NONE);
        CHECKS.due("none is done", x.cells(), 192, 0, 0);
        x.raw(241, 2, 193, 255, 1, 255, 1, 255, 2);
        CHECKS.due("several", x.end(), Terminal.NONE);
        CHECKS.due("are one rejected stream", x.count(4), 3);
    }

    private static void markAndAnotherBehindEachCommand() {
        CHECKS.says("255 and another: a REJECT behind what came before");
        for (int command : KNOWN) {
            Terminal x = Terminal.written(1, 3, 192);
            x.raw(command, 255, 1);
            boolean erases = command == 245 || command == 126 || command == 111;
            CHECKS.due("the end of " + command, x.end(), Terminal.NONE);
            CHECKS.due("the cell behind " + command, x.cell(0), erases ? 0 : 192);
            CHECKS.due("inbound behind " + command, x.inbound(), 0);
            CHECKS.due("locked behind " + command, x.locked(), true);
        }
    }

    /** It needs more calls than an object is used for, so this alone goes beyond them. */
    private static void tooManyBytes() {
        CHECKS.says("so is the 8193rd byte");
        BlockScreen x = new BlockScreen(1, 3);
        CHECKS.due("8192 bytes", endOf(x, 8192, 193), 1);
        CHECKS.due("done", x.cell(0), 193);
        CHECKS.due("8193 bytes", endOf(x, 8193, 194), Terminal.NONE);
        CHECKS.due("done behind what came before", x.cell(0), 194);
        CHECKS.due("9000 bytes", endOf(x, 9000, 195), Terminal.NONE);
        CHECKS.due("rejects", x.count(4), 2);
        CHECKS.due("the next one", endOf(x, 3, 196), 1);
    }

    private static int endOf(BlockScreen x, int many, int sign) {
        int[] bytes = new int[many];
        Arrays.fill(bytes, sign);
        bytes[0] = 241;
        bytes[1] = 2;
        for (int b : bytes) {
            x.out((byte) b);
        }
        x.out((byte) 255);
        return x.out((byte) 239);
    }

    private static void eraseAndWrite() {
        CHECKS.says("245 ERASE and write (the small screen is in use, all cells empty, no attributes, cursor 0)");
        Terminal x = Terminal.written(30, 90, 193, 29, 33, 194, 19, 17, 10, 139, 195);
        CHECKS.due("the last cell of all", x.sign(29, 89), 195);
        CHECKS.due("245", x.send(245, 0), 1);
        CHECKS.due("rows", x.count(0), 24);
        CHECKS.due("columns", x.count(1), 80);
        CHECKS.due("cursor", x.cursor(), 0);
        CHECKS.due("attributes", x.count(2), 0);
        CHECKS.due("empty", x.isEmptied(), true);
        x.send(126, 0);
        CHECKS.due("all of it is empty, too", x.isEmptied(), true);
        x = Terminal.written(1, 4, 193, 194, 19);
        CHECKS.due("245 with a sign", x.send(245, 0, 200), 1);
        CHECKS.due("it is written from address 0 on", x.cells(), 200, 0, 0, 0);
    }

    private static void eraseAndWriteAll() {
        CHECKS.says("126 likewise with all of it");
        Terminal x = new Terminal(30, 90);
        x.send(245, 0, 193, 29, 33, 194, 19, 17, 7, 127, 195);
        CHECKS.due("126", x.send(126, 0), 1);
        CHECKS.due("rows", x.count(0), 30);
        CHECKS.due("columns", x.count(1), 90);
        CHECKS.due("cursor", x.cursor(), 0);
        CHECKS.due("attributes", x.count(2), 0);
        CHECKS.due("empty", x.isEmptied(), true);
        x = Terminal.written(1, 4, 193, 194, 19);
        CHECKS.due("126 with a sign", x.send(126, 0, 200), 1);
        CHECKS.due("it is written from address 0 on", x.cells(), 200, 0, 0, 0);
    }

    private static void write() {
        CHECKS.says("241 write");
        Terminal x = Terminal.written(30, 90, 193, 29, 33, 194, 19);
        CHECKS.due("241", x.send(241, 0, 195), 1);
        CHECKS.due("rows stay", x.count(0), 30);
        CHECKS.due("columns stay", x.count(1), 90);
        CHECKS.due("cursor stays", x.cursor(), 3);
        CHECKS.due("cells stay", x.cell(0) + x.cell(1) + x.cell(2), 193 + 289 + 194);
        CHECKS.due("its sign", x.cell(3), 195);
        x.send(245, 0);
        x.send(241, 0);
        CHECKS.due("the small one stays in use", x.count(0), 24);
    }

    private static void otherCommands() {
        CHECKS.says("Others, and none: a reject");
        for (int command = 0; command < 256; command++) {
            int code = command;
            if (Arrays.stream(KNOWN).anyMatch(known -> known == code)) {
                continue;
            }
            Terminal x = Terminal.written(30, 90, 193, 19);
            CHECKS.due("command " + command, x.send(command), Terminal.NONE);
            CHECKS.due("command " + command + " with bytes", x.send(command, 7, 194), Terminal.NONE);
            CHECKS.due("rejects by " + command, x.count(4), 2);
            CHECKS.due("alarms by " + command, x.count(3), 0);
            CHECKS.due("cells by " + command, x.cell(0) * 256 + x.cell(1), 193 * 256);
            CHECKS.due("rows by " + command, x.count(0), 30);
            CHECKS.due("cursor by " + command, x.cursor(), 1);
            CHECKS.due("inbound by " + command, x.inbound(), 0);
            CHECKS.due("locked by " + command, x.locked(), true);
        }
    }

    private static void noCommand() {
        CHECKS.says("Others, and none: a reject");
        Terminal x = Terminal.written(1, 3, 193);
        CHECKS.due("none", x.end(), Terminal.NONE);
        CHECKS.due("rejects", x.count(4), 1);
        CHECKS.due("locked", x.locked(), true);
        CHECKS.due("cells", x.cells(), 193, 0, 0);
    }

    private static void rejectEndsTheStream() {
        CHECKS.says("A reject ends the stream: what was done stays");
        Terminal x = Terminal.written(1, 5, 29, 1);
        x.send(241, 5, 193, 17, 0, 3, 29, 8, 19, 1, 194, 17, 0, 0, 195);
        CHECKS.due("cells", x.cells(), 193, 0, 0, 256 + 8, 0);
        CHECKS.due("cursor", x.cursor(), 4);
        CHECKS.due("alarms", x.count(3), 1);
    }

    private static void rejectPassesOver() {
        CHECKS.says("bytes up to 255 239 are passed over");
        Terminal x = Terminal.written(1, 3, 193);
        x.raw(241, 2, 1, 126, 2, 194, 17, 0, 1, 19, 255, 255, 239, 29, 1, 255, 1, 111, 239, 195);
        CHECKS.due("the end", x.end(), Terminal.NONE);
        CHECKS.due("cells", x.cells(), 193, 0, 0);
        CHECKS.due("cursor", x.cursor(), 0);
        CHECKS.due("rejects", x.count(4), 1);
        CHECKS.due("the next stream", x.send(241, 2, 196), 1);
        CHECKS.due("is done", x.cells(), 196, 0, 0);
        x.raw(241, 2, 197, 255, 1, 198, 255, 255, 239, 241, 2, 199);
        CHECKS.due("255 255 is one byte in what is passed over, too", x.end(), Terminal.NONE);
        CHECKS.due("what came before it", x.cells(), 197, 0, 0);
    }

    private static void rejectLocks() {
        CHECKS.says("the keyboard is locked");
        Terminal x = Terminal.written(1, 3, 193);
        CHECKS.due("free", x.locked(), false);
        CHECKS.due("a reject with control 2", x.send(241, 2, 1), Terminal.NONE);
        CHECKS.due("locked", x.locked(), true);
        CHECKS.due("typing", x.type(193), 0);
        CHECKS.due("the next stream", x.send(241, 2), 1);
        CHECKS.due("frees it", x.locked(), false);
    }
}
