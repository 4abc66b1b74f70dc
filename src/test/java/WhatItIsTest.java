/** "What it is": streams that come whole, typing that stays, 512 calls. */
final class WhatItIsTest {
    private static final Checks CHECKS = new Checks();

    public static void main(String[] args) {
        streamsComeWhole();
        typingStays();
        theLastCallOfAStream();
        theLastCallOfKeys();
        laterCallsThrowNothing();
        CHECKS.finish();
    }

    private static void streamsComeWhole() {
        CHECKS.says("streams of bytes, which a host sends whole");
        Terminal x = Terminal.written(1, 4, 29, 1, 193);
        x.key(1);
        int waits = x.inbound();
        x.raw(126, 7, 200, 19, 255);
        CHECKS.due("cells ahead of the end", x.cells(), 257, 193, 0, 0);
        CHECKS.due("cursor ahead of the end", x.cursor(), 0);
        CHECKS.due("alarms ahead of the end", x.count(3), 0);
        CHECKS.due("locked ahead of the end", x.locked(), true);
        CHECKS.due("inbound ahead of the end", x.inbound(), waits);
        CHECKS.due("the end", x.out(239), 2);
        CHECKS.due("cells behind it", x.cells(), 200, 0, 0, 0);
        CHECKS.due("cursor behind it", x.cursor(), 1);
        CHECKS.due("alarms behind it", x.count(3), 1);
        CHECKS.due("locked behind it", x.locked(), false);
        CHECKS.due("inbound behind it", x.inbound(), 0);
    }

    private static void typingStays() {
        CHECKS.says("what is typed stays in it until a key sends it");
        Terminal x = Terminal.written(1, 3);
        x.type(193);
        x.key(44);
        CHECKS.due("inbound behind typing", x.inbound(), 0);
        x.key(1);
        CHECKS.due("sent", x.waiting(), 125, 64, 64, 193, 255, 239);
    }

    private static void theLastCallOfAStream() {
        CHECKS.says("An object is used for at most 512 calls");
        Terminal x = new Terminal(1, 3);
        x.raw(241, 0);
        for (int n = 0; n < 508; n++) {
            x.raw(19);
        }
        CHECKS.due("a stream that ends with the 512th call", x.end(), 509);
        CHECKS.due("calls left", x.callsLeft(), 0);
    }

    private static void theLastCallOfKeys() {
        CHECKS.says("An object is used for at most 512 calls");
        Terminal x = new Terminal(1, 132);
        x.key(51);
        for (int n = 0; n < 510; n++) {
            x.type(64 + n % 191);
        }
        CHECKS.due("cursor as the 512th call", x.cursor(), 510 % 132);
        CHECKS.due("calls left", x.callsLeft(), 0);
    }

    /** LANGUAGE.md's rule 7 asks this in any state; what these calls answer is not looked at. */
    private static void laterCallsThrowNothing() {
        CHECKS.says("what later calls answer is free");
        BlockScreen x = new BlockScreen(43, 132);
        boolean threw = false;
        try {
            for (int n = 0; n < 20000; n++) {
                x.out((byte) (n * 7));
                x.key(n % 60);
                x.type(n % 300);
                x.field(n % 5, n % 5);
            }
        } catch (RuntimeException e) {
            threw = true;
        }
        CHECKS.due("80000 calls throw", threw, false);
    }
}
