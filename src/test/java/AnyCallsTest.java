import java.util.Random;

/** Random runs of calls, none longer than the document promises: each answer is the one that the model gives. */
final class AnyCallsTest {
    private static final Checks CHECKS = new Checks();
    private static final int RUNS = 2000;
    private static final int[] COMMANDS = {245, 126, 241, 241, 241, 241, 241, 241, 111, 242, 246, 110};
    private static final int[] ORDERS = {5, 8, 17, 17, 18, 19, 19, 29, 29, 29, 29, 41, 44, 60};
    private static final int[] ATTRIBUTES = {0, 0, 0, 1, 2, 16, 32, 33, 48, 49, 255};
    private static final int[][] SIZES = {{1, 1}, {1, 2}, {2, 2}, {1, 6}, {3, 3}, {4, 5}, {6, 2}, {5, 7}};
    private static final int[][] LARGE = {{24, 80}, {25, 81}, {32, 128}, {41, 100}, {43, 132}, {0, 200}, {99, -1}};

    private final Random random;
    private final String name;
    private final Terminal x;
    private final Model model;

    private AnyCallsTest(int seed) {
        random = new Random(seed);
        name = "seed " + seed;
        int[] size = seed % 40 == 0 ? pick(LARGE) : pick(SIZES);
        x = new Terminal(size[0], size[1]);
        model = new Model(size[0], size[1]);
    }

    public static void main(String[] args) {
        CHECKS.says("any promise");
        for (int seed = 0; seed < RUNS; seed++) {
            new AnyCallsTest(seed).run();
        }
        CHECKS.finish();
    }

    private int[] pick(int[][] all) {
        return all[random.nextInt(all.length)];
    }

    private int pick(int[] all) {
        return all[random.nextInt(all.length)];
    }

    private void run() {
        try {
            for (int n = 0; n < 200 && x.callsLeft() > 120; n++) {
                change();
                ask();
            }
            while (x.callsLeft() > 1) {
                ask();
            }
        } catch (RuntimeException e) {
            e.printStackTrace(System.out);
            CHECKS.due(name + " threw", true, false);
        }
    }

    private void change() {
        int kind = random.nextInt(20);
        if (kind < 5) {
            stream();
        } else if (kind < 6) {
            out(random.nextInt(256));
        } else if (kind < 11) {
            type(random.nextInt(4) == 0 ? random.nextInt(300) : 240 + random.nextInt(12));
        } else if (kind < 17) {
            key(40 + random.nextInt(13));
        } else if (kind < 18) {
            key(random.nextInt(60) - 2);
        } else {
            key(51);
        }
    }

    private void out(int b) {
        CHECKS.due(name + " out(" + b + ")", x.out(b), model.out(b));
    }

    private void key(int code) {
        CHECKS.due(name + " key(" + code + ")", x.key(code), model.key(code));
    }

    private void type(int c) {
        CHECKS.due(name + " type(" + c + ")", x.type(c), model.type(c));
    }

    private void put(int b) {
        out(b);
        if (b == 255) {
            out(random.nextInt(40) == 0 ? 7 : b);
        }
    }

    private void stream() {
        put(random.nextInt(30) == 0 ? random.nextInt(256) : pick(COMMANDS));
        if (random.nextInt(3) > 0) {
            put(random.nextInt(8));
            for (int n = random.nextInt(9); n > 0; n--) {
                signOrOrder();
            }
        }
        out(255);
        out(239);
    }

    private void signOrOrder() {
        if (random.nextInt(3) == 0) {
            put(random.nextInt(5) == 0 ? 0 : 64 + random.nextInt(192));
            return;
        }
        int order = random.nextInt(60) == 0 ? random.nextInt(64) : pick(ORDERS);
        put(order);
        if (random.nextInt(60) == 0) {
            return;
        }
        if (order == 17 || order == 18 || order == 60) {
            address();
        }
        if (order == 8 || order == 60) {
            put(random.nextInt(10) == 0 ? random.nextInt(256) : pick(new int[] {0, 64, 193, 255}));
        }
        if (order == 29) {
            put(pick(ATTRIBUTES));
        }
        if (order == 41 || order == 44) {
            pairs();
        }
    }

    private void address() {
        int size = model.count(0) * model.count(1);
        int address = random.nextInt(size + (random.nextInt(20) == 0 ? 3 : 0));
        boolean plain = address >= 4096 || random.nextBoolean();
        put(plain ? address / 256 : 64 + address / 64);
        put(plain ? address % 256 : 192 + address % 64);
    }

    private void pairs() {
        int pairs = random.nextInt(3);
        put(pairs);
        for (int n = 0; n < pairs; n++) {
            put(random.nextInt(3) == 0 ? 66 : 192);
            put(pick(ATTRIBUTES));
        }
    }

    private void ask() {
        int rows = model.count(0);
        int columns = model.count(1);
        switch (random.nextInt(10)) {
            case 0:
                int row = random.nextInt(rows + 2) - 1;
                int column = random.nextInt(columns + 2) - 1;
                CHECKS.due(name + " sign(" + row + ", " + column + ")", x.sign(row, column), model.sign(row, column));
                CHECKS.due(name + " attribute(" + row + ", " + column + ")",
                    x.attribute(row, column), model.attribute(row, column));
                break;
            case 1:
                int i = random.nextInt(6) - 1;
                int what = random.nextInt(6) - 1;
                CHECKS.due(name + " field(" + i + ", " + what + ")", x.field(i, what), model.field(i, what));
                CHECKS.due(name + " modified(" + i + ")", x.modified(i), model.modified(i));
                break;
            case 2:
                CHECKS.due(name + " cursor()", x.cursor(), model.cursor());
                break;
            case 3:
                CHECKS.due(name + " locked()", x.locked(), model.locked());
                break;
            case 4:
                int count = random.nextInt(9) - 1;
                CHECKS.due(name + " count(" + count + ")", x.count(count), model.count(count));
                break;
            case 5:
            case 6:
                CHECKS.due(name + " inbound()", x.inbound(), model.inbound());
                octet(random.nextInt(model.inbound() + 2) - 1);
                break;
            default:
                cell(random.nextInt(rows * columns + 2) - 1);
                break;
        }
    }

    private void octet(int i) {
        Byte want = model.octet(i);
        if (want == null) {
            CHECKS.due(name + " octet(" + i + ") throws", x.octetThrows(i), true);
        } else {
            CHECKS.due(name + " octet(" + i + ")", x.octet(i), want);
        }
    }

    private void cell(int address) {
        Integer want = model.cell(address);
        if (want == null) {
            CHECKS.due(name + " cell(" + address + ") throws", x.cellThrows(address), true);
        } else {
            CHECKS.due(name + " cell(" + address + ")", x.cell(address), want);
        }
    }
}
