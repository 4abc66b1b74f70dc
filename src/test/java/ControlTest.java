/** The second byte of writes, and the signs behind it. */
final class ControlTest {
    private static final Checks CHECKS = new Checks();

    public static void main(String[] args) {
        withoutASecondByte();
        for (int control = 0; control < 256; control++) {
            everyControl(control);
            everyControlOfErasing(control);
        }
        modifiedAheadOfAllElse();
        freeBehindTheStream();
        whatWaitsGoes();
        alarms();
        signsAtThePlace();
        placeIsTheCursorsAtFirst();
        CHECKS.finish();
    }

    private static void withoutASecondByte() {
        CHECKS.says("Writes have a second byte (without: a reject)");
        for (int command : new int[] {241, 245, 126}) {
            Terminal x = Terminal.written(30, 90, 193, 19);
            CHECKS.due(command + " alone", x.send(command), Terminal.NONE);
            CHECKS.due(command + " alone: locked", x.locked(), true);
            CHECKS.due(command + " alone: rejects", x.count(4), 1);
            CHECKS.due(command + " alone: what was done stays", x.cell(0), command == 241 ? 193 : 0);
            CHECKS.due(command + " alone: rows", x.count(0), command == 245 ? 24 : 30);
            CHECKS.due(command + " alone: cursor", x.cursor(), command == 241 ? 1 : 0);
        }
    }

    private static void everyControl(int control) {
        CHECKS.says("CONTROL: 1 no attribute is modified any more .., 2 the keyboard is free .., 4 an alarm");
        Terminal x = Terminal.written(1, 6, 29, 33, 193, 29, 1, 194);
        x.key(1);
        int waits = x.inbound();
        String name = "control " + control;
        CHECKS.due(name, x.send(241, control), 1);
        CHECKS.due(name + ": protected one modified", x.modified(0), (control & 1) == 0);
        CHECKS.due(name + ": other one modified", x.modified(1), (control & 1) == 0);
        CHECKS.due(name + ": locked", x.locked(), (control & 2) == 0);
        CHECKS.due(name + ": inbound", x.inbound(), (control & 2) == 0 ? waits : 0);
        CHECKS.due(name + ": alarms", x.count(3), (control & 4) == 0 ? 0 : 1);
        CHECKS.due(name + ": signs stay", x.cell(1) + x.cell(3), 193 + 194);
    }

    private static void everyControlOfErasing(int control) {
        CHECKS.says("CONTROL: 1 no attribute is modified any more .., 2 the keyboard is free .., 4 an alarm");
        for (int command : new int[] {245, 126}) {
            Terminal x = new Terminal(1, 3);
            String name = command + " with control " + control;
            CHECKS.due(name, x.send(command, control, 29, 1), 2);
            CHECKS.due(name + ": modified by its order", x.modified(0), true);
            CHECKS.due(name + ": locked", x.locked(), (control & 2) == 0);
            CHECKS.due(name + ": alarms", x.count(3), (control & 4) == 0 ? 0 : 1);
        }
    }

    private static void modifiedAheadOfAllElse() {
        CHECKS.says("1 no attribute is modified any more (ahead of all else)");
        Terminal x = Terminal.written(1, 6, 29, 255, 193, 29, 3);
        x.send(241, 1, 17, 0, 4, 29, 1);
        CHECKS.due("cells", x.cells(), 256 + 254, 193, 256 + 2, 0, 256 + 1, 0);
        x.send(241, 1, 1);
        CHECKS.due("a reject behind it", x.cells(), 256 + 254, 193, 256 + 2, 0, 256, 0);
    }

    private static void freeBehindTheStream() {
        CHECKS.says("2 the keyboard is free behind the stream");
        Terminal x = new Terminal(1, 3);
        x.raw(241, 2, 193);
        CHECKS.due("ahead of its end", x.locked(), true);
        x.end();
        CHECKS.due("behind its end", x.locked(), false);
        x.send(241, 2);
        CHECKS.due("a free one stays free", x.locked(), false);
        x.send(241, 0);
        CHECKS.due("without 2, too", x.locked(), false);
        x.send(241, 2, 193, 2);
        CHECKS.due("not behind a reject", x.locked(), true);
    }

    private static void whatWaitsGoes() {
        CHECKS.says("(and what waits to be sent goes)");
        Terminal x = Terminal.written(1, 3, 193);
        x.key(1);
        x.send(241, 0);
        CHECKS.due("without 2", x.inbound(), 6);
        x.send(241, 2, 1);
        CHECKS.due("not behind a reject", x.inbound(), 6);
        x.send(241, 2);
        CHECKS.due("with 2", x.inbound(), 0);
        CHECKS.due("its first byte", x.octetThrows(0), true);
        x.key(1);
        x.send(245, 2);
        CHECKS.due("245 with 2", x.inbound(), 0);
        x.key(1);
        x.send(126, 5);
        CHECKS.due("126 without 2", x.inbound(), 5);
    }

    private static void alarms() {
        CHECKS.says("4 an alarm");
        Terminal x = Terminal.written(1, 3);
        x.send(241, 4);
        x.send(241, 0);
        x.send(126, 4);
        x.send(245, 6);
        CHECKS.due("alarms", x.count(3), 3);
        x.send(241, 4, 1);
        CHECKS.due("with a reject behind it", x.count(3), 4);
        x.send(111, 4);
        x.send(242, 4);
        CHECKS.due("no control there", x.count(3), 4);
    }

    private static void signsAtThePlace() {
        CHECKS.says("Then SIGNS, each into the cell at the PLACE .., which goes on by one");
        for (int sign = 64; sign < 256; sign++) {
            Terminal x = Terminal.written(1, 3, 193, 193, 193);
            CHECKS.due("sign " + sign, x.send(241, 2, sign, 19), 2);
            CHECKS.due("its cell", x.cells(), sign, 193, 193);
            CHECKS.due("the place behind it", x.cursor(), 1);
        }
        Terminal x = Terminal.written(1, 3, 193, 193, 193);
        CHECKS.due("sign 0", x.send(241, 2, 0, 19), 2);
        CHECKS.due("its cell", x.cells(), 0, 193, 193);
        CHECKS.due("the place behind it", x.cursor(), 1);
    }

    private static void placeIsTheCursorsAtFirst() {
        CHECKS.says("(the cursor's at first)");
        Terminal x = Terminal.written(2, 3);
        x.cursorTo(4);
        x.send(241, 2, 193, 194, 195);
        CHECKS.due("cells", x.cells(), 195, 0, 0, 0, 193, 194);
        CHECKS.due("signs leave the cursor", x.cursor(), 4);
        x.key(44);
        x.send(241, 2, 196);
        CHECKS.due("where a key has brought it", x.cell(3), 196);
    }
}
