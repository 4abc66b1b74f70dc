import java.util.Random;

/** Any calls in any state: nothing is thrown but where the document says, and the answers agree with one another. */
final class AnyCallsTest {
    private static final Checks CHECKS = new Checks();
    private static final int[] COMMANDS = {245, 126, 241, 241, 241, 241, 111, 242, 246, 110};
    private static final int[] ORDERS = {17, 29, 29, 29, 41, 44, 19, 5, 60, 18, 8};
    private static final int[] ATTRIBUTES = {0, 0, 1, 16, 32, 33, 48, 255};

    public static void main(String[] args) {
        for (int seed = 0; seed < 1500; seed++) {
            run(new Random(seed), "seed " + seed);
        }
        CHECKS.finish();
    }

    private static void run(Random random, String name) {
        boolean large = random.nextInt(50) == 0;
        BlockScreen x = large
            ? new BlockScreen(random.nextInt(46), random.nextInt(140))
            : new BlockScreen(1 + random.nextInt(4), 1 + random.nextInt(6));
        try {
            for (int n = 0; n < 60; n++) {
                call(x, random);
                agree(x, name);
            }
        } catch (RuntimeException e) {
            e.printStackTrace(System.out);
            CHECKS.due(name + " threw", true, false);
        }
    }

    private static void call(BlockScreen x, Random random) {
        switch (random.nextInt(6)) {
            case 0:
                x.key(40 + random.nextInt(13));
                break;
            case 1:
                x.key(random.nextInt(5) == 0 ? random.nextInt(24) : 51);
                break;
            case 2:
                x.out((byte) random.nextInt());
                break;
            case 3:
                stream(x, random);
                break;
            default:
                x.type(random.nextBoolean() ? 240 + random.nextInt(10) : random.nextInt(300));
                break;
        }
    }

    private static void stream(BlockScreen x, Random random) {
        x.out((byte) 255);
        x.out((byte) 239);
        put(x, COMMANDS[random.nextInt(COMMANDS.length)]);
        put(x, random.nextInt(8));
        int size = x.count(0) * x.count(1);
        for (int n = random.nextInt(8); n > 0; n--) {
            if (random.nextBoolean()) {
                put(x, 193 + random.nextInt(63));
                continue;
            }
            put(x, ORDERS[random.nextInt(ORDERS.length)]);
            for (int i = random.nextInt(4); i > 0; i--) {
                int address = random.nextInt(size);
                put(x, random.nextBoolean() ? ATTRIBUTES[random.nextInt(ATTRIBUTES.length)] : address / 256);
                put(x, random.nextBoolean() ? address % 256 : 192);
            }
        }
        x.out((byte) 255);
        x.out((byte) 239);
    }

    private static void put(BlockScreen x, int b) {
        x.out((byte) b);
        if (b == 255) {
            x.out((byte) b);
        }
    }

    private static void agree(BlockScreen x, String name) {
        int columns = x.count(1);
        int[] cells = Host.cells(x);
        int fields = 0;
        int signs = 0;
        for (int at = 0; at < cells.length; at++) {
            boolean attribute = cells[at] >= 256;
            fields += attribute ? 1 : 0;
            signs += !attribute && cells[at] != 0 ? 1 : 0;
            if (x.sign(at / columns, at % columns) != (attribute ? BlockScreen.NONE : cells[at])) {
                CHECKS.due(name + ": sign agrees with cell at " + at, false, true);
            }
        }
        CHECKS.due(name + ": count of fields", x.count(2), fields);
        CHECKS.due(name + ": the cursor is on the screen", x.cursor() >= 0 && x.cursor() < cells.length, true);
        fieldsAgree(x, name, cells, signs);
        int[] waiting = Host.waiting(x);
        int n = waiting.length;
        CHECKS.due(name + ": what waits has an end", n == 0 || waiting[n - 2] == 255 && waiting[n - 1] == 239, true);
    }

    private static void fieldsAgree(BlockScreen x, String name, int[] cells, int signs) {
        int fields = x.count(2);
        if (fields == 0) {
            return;
        }
        int covered = 0;
        int signsSeen = 0;
        for (int i = 0; i < fields; i++) {
            covered += 1 + x.field(i, 2);
            signsSeen += x.field(i, 3);
            int held = cells[x.field(i, 0)];
            if (held != 256 + x.field(i, 1) || x.modified(i) != ((held & 1) != 0)) {
                CHECKS.due(name + ": field " + i + " agrees with its cell", false, true);
            }
        }
        CHECKS.due(name + ": fields cover the screen", covered, cells.length);
        CHECKS.due(name + ": fields have all signs", signsSeen, signs);
    }
}
