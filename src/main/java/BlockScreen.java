import java.util.Arrays;

/**
 * A block terminal: its screen is filled and asked by streams of bytes, which a host sends whole;
 * what is typed stays in it until a key sends it.
 */
public final class BlockScreen {
    public static final int NONE = -1;

    private static final int OUTSIDE = -2;
    private static final int DONE = 1;
    private static final int REFUSED = 0;

    /** The byte that stands ahead of the end of a stream, and doubled for itself. */
    private static final int MARK = 255;
    private static final int END = 239;

    private static final int ADDRESS_ORDER = 17;
    private static final int FIELD_ORDER = 29;

    private static final int NO_KEY_SENT = 96;
    private static final int CLEAR_KEY_SENDS = 109;

    private final Screen screen;
    private final Sender sender;
    private final Keyboard keyboard;
    private final HostStream stream;
    private boolean markCame;
    private int rejectedStreams;

    public BlockScreen(int rows, int columns) {
        screen = new Screen(rows, columns);
        sender = new Sender(screen);
        keyboard = new Keyboard(screen, sender);
        stream = new HostStream(screen, sender, keyboard);
        markCame = false;
        rejectedStreams = 0;
    }

    public int out(byte b) {
        int code = b & 255;
        if (!markCame) {
            if (code == MARK) {
                markCame = true;
            } else {
                stream.gather(code);
            }
            return 0;
        }
        markCame = false;
        if (code == MARK) {
            stream.gather(code);
            return 0;
        }
        if (code != END) {
            stream.spoil();
            return 0;
        }
        boolean accepted = stream.perform();
        stream.begin();
        if (!accepted) {
            rejectedStreams++;
            keyboard.isLocked = true;
            return NONE;
        }
        return 1 + stream.ordersDone;
    }

    public int sign(int row, int column) {
        if (!screen.contains(row, column)) {
            return OUTSIDE;
        }
        int held = screen.get(screen.addressOf(row, column));
        return held >= Screen.ATTRIBUTE ? NONE : held;
    }

    public int attribute(int row, int column) {
        if (!screen.contains(row, column)) {
            return OUTSIDE;
        }
        int address = screen.addressOf(row, column);
        int held = screen.get(address);
        return held >= Screen.ATTRIBUTE ? held : screen.attributeOver(address);
    }

    public int key(int code) {
        return keyboard.press(code);
    }

    public int type(int c) {
        return keyboard.enter(c);
    }

    public int inbound() {
        return sender.waiting.length;
    }

    public byte octet(int i) throws ArrayIndexOutOfBoundsException {
        if (i < 0 || i >= sender.waiting.length) {
            throw new ArrayIndexOutOfBoundsException("no such byte waits to be sent");
        }
        return (byte) sender.waiting.get(i);
    }

    public int field(int i, int what) {
        int start = screen.startOfField(i);
        if (start == NONE) {
            return NONE;
        }
        switch (what) {
            case 0:
                return start;
            case 1:
                return screen.attributeOver(start);
            case 2:
                return screen.cellsToFieldEnd(screen.after(start));
            case 3:
                return screen.signsOfField(start);
            default:
                return NONE;
        }
    }

    public int cursor() {
        return screen.cursor;
    }

    public boolean locked() {
        return keyboard.isLocked;
    }

    public boolean modified(int field) {
        int start = screen.startOfField(field);
        return start != NONE && (screen.get(start) & Screen.MODIFIED) != 0;
    }

    public int cell(int address) throws ArrayIndexOutOfBoundsException {
        if (address < 0 || address >= screen.size) {
            throw new ArrayIndexOutOfBoundsException("no such address in the screen in use");
        }
        return screen.get(address);
    }

    public int count(int what) {
        switch (what) {
            case 0:
                return screen.rows;
            case 1:
                return screen.columns;
            case 2:
                return screen.fields;
            case 3:
                return stream.alarms;
            case 4:
                return rejectedStreams;
            case 5:
                return keyboard.inserts ? 1 : 0;
            case 6:
                return sender.latestKey;
            default:
                return NONE;
        }
    }

    /** A row of bytes that grows, so that a small screen with short streams stays small in memory. */
    private static final class ByteRow {
        private static final int FIRST_ROOM = 64;
        /** Far above four bytes for each cell of the largest screen. */
        private static final int MOST_ROOM = 32768;

        private byte[] bytes = new byte[FIRST_ROOM];
        int length = 0;

        void add(int code) {
            if (length >= bytes.length && length < MOST_ROOM) {
                bytes = Arrays.copyOf(bytes, 2 * length);
            }
            if (length >= 0 && length < bytes.length) {
                bytes[length] = (byte) code;
                length++;
            }
        }

        /** The byte as 0 .. 255, NONE where there is none. */
        int get(int i) {
            return i < 0 || i >= length || i >= bytes.length ? NONE : bytes[i] & 255;
        }

        void clear() {
            length = 0;
        }
    }

    /** The cells in use and the cursor; a cell holds its sign, or 256 and its attribute. */
    private static final class Screen {
        static final int ATTRIBUTE = 256;
        static final int PROTECTED = 32;
        static final int NUMERIC = 16;
        static final int SKIPPED = PROTECTED + NUMERIC;
        static final int MODIFIED = 1;

        private static final int MOST_ROWS = 43;
        private static final int MOST_COLUMNS = 132;
        private static final int SMALL_ROWS = 24;
        private static final int SMALL_COLUMNS = 80;

        private final int allRows;
        private final int allColumns;
        private final int[] cells;
        int rows;
        int columns;
        int size;
        int fields;
        int cursor;

        Screen(int wantedRows, int wantedColumns) {
            allRows = Math.max(1, Math.min(MOST_ROWS, wantedRows));
            allColumns = Math.max(1, Math.min(MOST_COLUMNS, wantedColumns));
            cells = new int[allRows * allColumns];
            rows = allRows;
            columns = allColumns;
            size = allRows * allColumns;
            fields = 0;
            cursor = 0;
        }

        void eraseToAll() {
            eraseTo(allRows, allColumns);
        }

        void eraseToSmall() {
            eraseTo(Math.min(SMALL_ROWS, allRows), Math.min(SMALL_COLUMNS, allColumns));
        }

        private void eraseTo(int newRows, int newColumns) {
            rows = newRows;
            columns = newColumns;
            size = newRows * newColumns;
            Arrays.fill(cells, 0);
            fields = 0;
            cursor = 0;
        }

        boolean contains(int row, int column) {
            return row >= 0 && row < rows && column >= 0 && column < columns;
        }

        int addressOf(int row, int column) {
            return row * columns + column;
        }

        int get(int address) {
            return address < 0 || address >= cells.length ? 0 : cells[address];
        }

        void put(int address, int held) {
            if (address < 0 || address >= cells.length) {
                return;
            }
            if (cells[address] >= ATTRIBUTE) {
                fields--;
            }
            if (held >= ATTRIBUTE) {
                fields++;
            }
            cells[address] = held;
        }

        int after(int address) {
            return address + 1 >= size ? 0 : address + 1;
        }

        int before(int address) {
            return address <= 0 ? size - 1 : address - 1;
        }

        /** How many steps lead from an address on to another; a whole round to itself. */
        int stepsTo(int from, int to) {
            return to > from ? to - from : to - from + size;
        }

        int startOfRow(int address) {
            return columns < 1 ? 0 : address - address % columns;
        }

        /** The attribute of a cell's field, NONE without fields. */
        int attributeOver(int address) {
            int start = startOver(address);
            return start == NONE ? NONE : get(start) - ATTRIBUTE;
        }

        /** The address of the attribute of a cell's field, NONE without fields. */
        private int startOver(int address) {
            if (fields == 0) {
                return NONE;
            }
            int at = address;
            for (int n = 0; n < size; n++) {
                if (get(at) >= ATTRIBUTE) {
                    return at;
                }
                at = before(at);
            }
            return NONE;
        }

        /** The address of the i-th attribute, NONE where there is none. */
        int startOfField(int i) {
            if (i < 0 || i >= fields) {
                return NONE;
            }
            int passed = 0;
            for (int at = 0; at < size; at++) {
                if (get(at) >= ATTRIBUTE) {
                    if (passed == i) {
                        return at;
                    }
                    passed++;
                }
            }
            return NONE;
        }

        /** How many cells there are from an address to its field's end, without fields to the screen's. */
        int cellsToFieldEnd(int address) {
            if (fields == 0) {
                return size - address;
            }
            int at = address;
            for (int n = 0; n < size; n++) {
                if (get(at) >= ATTRIBUTE) {
                    return n;
                }
                at = after(at);
            }
            return size;
        }

        int signsOfField(int start) {
            int at = after(start);
            int many = cellsToFieldEnd(at);
            int signs = 0;
            for (int n = 0; n < many; n++) {
                if (get(at) != 0) {
                    signs++;
                }
                at = after(at);
            }
            return signs;
        }

        boolean mayBeTypedIn(int address) {
            return get(address) < ATTRIBUTE && isOpen(startOver(address));
        }

        /** Whether the field of the attribute at an address is not protected; NONE: there are no fields. */
        private boolean isOpen(int start) {
            return start == NONE || (get(start) & PROTECTED) == 0;
        }

        /** The first cell from an address on, round, that may be typed in; 0 without. */
        int firstToTypeIn(int from) {
            boolean open = isOpen(startOver(from));
            int at = from;
            for (int n = 0; n < size; n++) {
                if (get(at) >= ATTRIBUTE) {
                    open = isOpen(at);
                } else if (open) {
                    return at;
                }
                at = after(at);
            }
            return 0;
        }

        /** The cell behind the first attribute from an address on, round, where a tab stops; 0 without. */
        int nextTabStop(int from) {
            int at = from;
            for (int n = 0; n < size; n++) {
                if (isTabStop(at)) {
                    return after(at);
                }
                at = after(at);
            }
            return 0;
        }

        /** The first tab stop ahead of an address, itself the last that is looked at; 0 without. */
        int previousTabStop(int from) {
            int at = before(from);
            for (int n = 0; n < size; n++) {
                if (isTabStop(before(at))) {
                    return at;
                }
                at = before(at);
            }
            return 0;
        }

        boolean startsOpenField(int address) {
            return get(address) >= ATTRIBUTE && isOpen(address);
        }

        private boolean isTabStop(int address) {
            return startsOpenField(address) && get(after(address)) < ATTRIBUTE;
        }

        void noneModified() {
            for (int at = 0; at < size; at++) {
                clearModified(at);
            }
        }

        private void clearModified(int address) {
            int held = get(address);
            if (held >= ATTRIBUTE) {
                put(address, held & ~MODIFIED);
            }
        }

        void markModified(int address) {
            int start = startOver(address);
            if (start != NONE) {
                put(start, get(start) | MODIFIED);
            }
        }

        void fill(int from, int many, int sign) {
            int at = from;
            for (int n = 0; n < many; n++) {
                put(at, sign);
                at = after(at);
            }
        }

        void emptyOpenCells(int from, int many) {
            boolean open = isOpen(startOver(from));
            int at = from;
            for (int n = 0; n < many; n++) {
                if (get(at) >= ATTRIBUTE) {
                    open = isOpen(at);
                } else if (open) {
                    put(at, 0);
                }
                at = after(at);
            }
        }

        void eraseWhatIsNotProtected() {
            emptyOpenCells(0, size);
            for (int at = 0; at < size; at++) {
                if (startsOpenField(at)) {
                    clearModified(at);
                }
            }
            cursor = firstToTypeIn(0);
        }

        /** Signs from an address up to the first empty cell move on; false, with nothing done, without one. */
        boolean makeRoom(int address) {
            int many = cellsToFirstEmpty(address);
            if (many == NONE) {
                return false;
            }
            int at = address;
            int coming = 0;
            for (int n = 0; n <= many; n++) {
                int going = get(at);
                put(at, coming);
                coming = going;
                at = after(at);
            }
            return true;
        }

        private int cellsToFirstEmpty(int address) {
            int many = cellsToFieldEnd(address);
            int at = address;
            for (int n = 0; n < many; n++) {
                if (get(at) == 0) {
                    return n;
                }
                at = after(at);
            }
            return NONE;
        }

        /** A sign goes out, those behind it in its field and row move up. */
        void remove(int address) {
            int lastOfRow = startOfRow(address) + columns - 1;
            int many = Math.min(cellsToFieldEnd(address) - 1, lastOfRow - address);
            int at = address;
            for (int n = 0; n < many; n++) {
                put(at, get(at + 1));
                at++;
            }
            put(at, 0);
        }
    }

    /** What waits to be sent, and the key that sent latest. */
    private static final class Sender {
        /** Up to so many cells six bits a byte are enough for an address. */
        private static final int MOST_SIX_BIT_CELLS = 4096;

        private final Screen screen;
        final ByteRow waiting;
        int latestKey;

        Sender(Screen screen) {
            this.screen = screen;
            waiting = new ByteRow();
            latestKey = NO_KEY_SENT;
        }

        void drop() {
            waiting.clear();
        }

        /** A stream as by the latest key: all cells, or what is modified. */
        void compose(boolean allCells) {
            waiting.clear();
            add(latestKey);
            if (!latestSendsShortly()) {
                addAddress(screen.cursor);
                if (allCells) {
                    addAllCells();
                } else if (screen.fields > 0) {
                    addModifiedFields();
                } else {
                    addSigns(0, screen.size);
                }
            }
            waiting.add(MARK);
            waiting.add(END);
        }

        private boolean latestSendsShortly() {
            return latestKey >= 107 && latestKey <= 110;
        }

        private void add(int code) {
            waiting.add(code);
            if (code == MARK) {
                waiting.add(code);
            }
        }

        private void addAddress(int address) {
            if (screen.size <= MOST_SIX_BIT_CELLS) {
                add(64 + (address >> 6 & 63));
                add(64 + (address & 63));
            } else {
                add(address >> 8);
                add(address & 255);
            }
        }

        private void addAllCells() {
            for (int at = 0; at < screen.size; at++) {
                int held = screen.get(at);
                if (held >= Screen.ATTRIBUTE) {
                    add(FIELD_ORDER);
                    add(held - Screen.ATTRIBUTE);
                } else {
                    add(held);
                }
            }
        }

        private void addModifiedFields() {
            for (int at = 0; at < screen.size; at++) {
                int held = screen.get(at);
                if (held >= Screen.ATTRIBUTE && (held & Screen.MODIFIED) != 0) {
                    int first = screen.after(at);
                    add(ADDRESS_ORDER);
                    addAddress(first);
                    addSigns(first, screen.cellsToFieldEnd(first));
                }
            }
        }

        private void addSigns(int from, int many) {
            int at = from;
            for (int n = 0; n < many; n++) {
                int sign = screen.get(at);
                if (sign != 0) {
                    add(sign);
                }
                at = screen.after(at);
            }
        }
    }

    /** The keys, and what they do to the screen and to what waits to be sent. */
    private static final class Keyboard {
        private static final int FIRST_PROGRAM_KEY = 11;
        private static final int[] PROGRAM_KEYS_SEND = {
            241, 242, 243, 244, 245, 246, 247, 248, 249, 122, 123, 124
        };

        private static final int NEXT_FIELD = 40;
        private static final int PREVIOUS_FIELD = 41;
        private static final int NEXT_ROW = 42;
        private static final int FIRST_FIELD = 43;
        private static final int LEFT = 44;
        private static final int RIGHT = 45;
        private static final int UP = 46;
        private static final int DOWN = 47;
        private static final int EMPTY_REST = 48;
        private static final int ERASE_INPUT = 49;
        private static final int INSERT = 50;
        private static final int RESET = 51;
        private static final int DELETE = 52;

        private final Screen screen;
        private final Sender sender;
        boolean isLocked;
        boolean inserts;

        Keyboard(Screen screen, Sender sender) {
            this.screen = screen;
            this.sender = sender;
            isLocked = true;
            inserts = false;
        }

        int enter(int sign) {
            if (sign < 64 || sign > 254) {
                return NONE;
            }
            if (isLocked) {
                return REFUSED;
            }
            int at = screen.cursor;
            if (!takes(at, sign) || (inserts && !screen.makeRoom(at))) {
                isLocked = true;
                return REFUSED;
            }
            screen.put(at, sign);
            screen.markModified(at);
            screen.cursor = placeBehindTyped(at);
            return DONE;
        }

        private boolean takes(int address, int sign) {
            if (!screen.mayBeTypedIn(address)) {
                return false;
            }
            int attribute = screen.attributeOver(address);
            boolean numeric = attribute != NONE && (attribute & Screen.NUMERIC) != 0;
            return !numeric || (sign >= 240 && sign <= 249) || sign == 75 || sign == 96;
        }

        private int placeBehindTyped(int address) {
            int next = screen.after(address);
            int held = screen.get(next);
            if (held < Screen.ATTRIBUTE) {
                return next;
            }
            boolean skipped = (held & Screen.SKIPPED) == Screen.SKIPPED;
            return skipped ? screen.nextTabStop(next) : screen.after(next);
        }

        int press(int code) {
            int sent = byteSentBy(code);
            if (sent == NONE && (code < NEXT_FIELD || code > DELETE)) {
                return NONE;
            }
            if (code == RESET) {
                inserts = false;
                isLocked = false;
                return DONE;
            }
            if (isLocked) {
                return REFUSED;
            }
            if (sent != NONE) {
                send(sent);
                return DONE;
            }
            if (code <= DOWN) {
                screen.cursor = cursorMovedBy(code);
                return DONE;
            }
            return edit(code);
        }

        private static int byteSentBy(int code) {
            switch (code) {
                case 1:
                    return 125;
                case 2:
                    return CLEAR_KEY_SENDS;
                case 3:
                    return 108;
                case 4:
                    return 110;
                case 5:
                    return 107;
                default:
                    break;
            }
            if (code < FIRST_PROGRAM_KEY || code >= FIRST_PROGRAM_KEY + PROGRAM_KEYS_SEND.length) {
                return NONE;
            }
            return PROGRAM_KEYS_SEND[code - FIRST_PROGRAM_KEY];
        }

        private void send(int sent) {
            sender.latestKey = sent;
            sender.compose(false);
            if (sent == CLEAR_KEY_SENDS) {
                screen.eraseToSmall();
            }
            isLocked = true;
        }

        private int cursorMovedBy(int code) {
            int at = screen.cursor;
            switch (code) {
                case NEXT_FIELD:
                    return screen.nextTabStop(at);
                case PREVIOUS_FIELD:
                    return screen.previousTabStop(at);
                case NEXT_ROW:
                    return screen.firstToTypeIn(screen.startOfRow(rowDown(at)));
                case FIRST_FIELD:
                    return screen.nextTabStop(screen.size - 1);
                case LEFT:
                    return screen.before(at);
                case RIGHT:
                    return screen.after(at);
                case UP:
                    return at < screen.columns ? at - screen.columns + screen.size : at - screen.columns;
                default:
                    return rowDown(at);
            }
        }

        private int rowDown(int address) {
            int down = address + screen.columns;
            return down >= screen.size ? down - screen.size : down;
        }

        private int edit(int code) {
            if (code == ERASE_INPUT) {
                screen.eraseWhatIsNotProtected();
                sender.drop();
                return DONE;
            }
            if (code == INSERT) {
                inserts = true;
                return DONE;
            }
            int at = screen.cursor;
            if (!screen.mayBeTypedIn(at)) {
                isLocked = true;
                return REFUSED;
            }
            if (code == EMPTY_REST) {
                screen.fill(at, screen.cellsToFieldEnd(at), 0);
            } else {
                screen.remove(at);
            }
            screen.markModified(at);
            return DONE;
        }
    }

    /** A stream from the host: gathered byte by byte, performed whole when its end has come. */
    private static final class HostStream {
        private static final int MOST_BYTES = 8192;

        private static final int ERASE_WRITE_SMALL = 245;
        private static final int ERASE_WRITE_ALL = 126;
        private static final int WRITE = 241;
        private static final int ERASE_OPEN = 111;
        private static final int READ_ALL = 242;
        private static final int READ_MODIFIED = 246;
        private static final int READ_MODIFIED_TOO = 110;

        private static final int RESET_MODIFIED = 1;
        private static final int FREE_KEYBOARD = 2;
        private static final int ALARM = 4;

        private static final int TAB_ORDER = 5;
        private static final int SIGN_ORDER = 8;
        private static final int ERASE_ORDER = 18;
        private static final int CURSOR_ORDER = 19;
        private static final int PAIRS_ORDER = 41;
        private static final int CHANGE_ORDER = 44;
        private static final int REPEAT_ORDER = 60;
        private static final int ATTRIBUTE_PAIR = 192;

        private final Screen screen;
        private final Sender sender;
        private final Keyboard keyboard;
        private final ByteRow bytes;
        private boolean spoiled;
        private int position;
        private int place;
        private boolean signJustPut;
        int ordersDone;
        int alarms;

        HostStream(Screen screen, Sender sender, Keyboard keyboard) {
            this.screen = screen;
            this.sender = sender;
            this.keyboard = keyboard;
            bytes = new ByteRow();
            spoiled = false;
            position = 0;
            place = 0;
            signJustPut = false;
            ordersDone = 0;
            alarms = 0;
        }

        void begin() {
            bytes.clear();
            spoiled = false;
        }

        /** Nothing more is gathered, but what came before is still performed. */
        void spoil() {
            spoiled = true;
        }

        void gather(int code) {
            if (bytes.length >= MOST_BYTES) {
                spoiled = true;
            }
            if (!spoiled) {
                bytes.add(code);
            }
        }

        /** Whether the stream was accepted; what was done ahead of a reject stays. */
        boolean perform() {
            position = 0;
            ordersDone = 0;
            int command = take();
            switch (command) {
                case ERASE_WRITE_SMALL:
                    screen.eraseToSmall();
                    return write();
                case ERASE_WRITE_ALL:
                    screen.eraseToAll();
                    return write();
                case WRITE:
                    return write();
                case ERASE_OPEN:
                    screen.eraseWhatIsNotProtected();
                    freeKeyboard();
                    return endsHere();
                case READ_ALL:
                case READ_MODIFIED:
                case READ_MODIFIED_TOO:
                    if (!endsHere()) {
                        return false;
                    }
                    sender.compose(command == READ_ALL);
                    return true;
                default:
                    return false;
            }
        }

        private boolean endsHere() {
            return position >= bytes.length && !spoiled;
        }

        /** The next byte, NONE when there is none left. */
        private int take() {
            int code = bytes.get(position);
            if (code != NONE) {
                position++;
            }
            return code;
        }

        private void freeKeyboard() {
            keyboard.isLocked = false;
            sender.drop();
        }

        private boolean write() {
            int control = take();
            if (control == NONE) {
                return false;
            }
            if ((control & RESET_MODIFIED) != 0) {
                screen.noneModified();
            }
            if ((control & ALARM) != 0) {
                alarms++;
            }
            place = screen.cursor;
            signJustPut = false;
            for (int n = 0; n < MOST_BYTES && position < bytes.length; n++) {
                int code = take();
                if (isSign(code)) {
                    putAndGoOn(code);
                } else if (order(code)) {
                    ordersDone++;
                } else {
                    return false;
                }
                signJustPut = isSign(code) || code == SIGN_ORDER;
            }
            if (spoiled) {
                return false;
            }
            if ((control & FREE_KEYBOARD) != 0) {
                freeKeyboard();
            }
            return true;
        }

        /** An order with all that belongs to it; false for a reject. */
        private boolean order(int code) {
            switch (code) {
                case ADDRESS_ORDER:
                    return goToAddress();
                case FIELD_ORDER:
                    return startField(take());
                case PAIRS_ORDER:
                    return startField(takePairs(0));
                case CHANGE_ORDER:
                    return changeAttribute();
                case CURSOR_ORDER:
                    screen.cursor = place;
                    return true;
                case TAB_ORDER:
                    tab();
                    return true;
                case REPEAT_ORDER:
                    return repeatToAddress();
                case ERASE_ORDER:
                    return eraseToAddress();
                case SIGN_ORDER:
                    return putTakenSign();
                default:
                    return false;
            }
        }

        private static boolean isSign(int code) {
            return code == 0 || code >= 64;
        }

        private void putAndGoOn(int held) {
            screen.put(place, held);
            place = screen.after(place);
        }

        /** An address of two bytes, NONE when bytes lack or it lies beyond the screen. */
        private int takeAddress() {
            int first = take();
            int second = take();
            if (first == NONE || second == NONE) {
                return NONE;
            }
            int address = first < 64 ? first * 256 + second : (first & 63) * 64 + (second & 63);
            return address < screen.size ? address : NONE;
        }

        /** The attribute that counted pairs tell, another without, NONE when bytes lack. */
        private int takePairs(int without) {
            int pairs = take();
            if (pairs == NONE || bytes.length - position < 2 * pairs) {
                return NONE;
            }
            int attribute = without;
            for (int n = 0; n < pairs; n++) {
                int kind = take();
                int value = take();
                if (kind == ATTRIBUTE_PAIR) {
                    attribute = value;
                }
            }
            return attribute;
        }

        private boolean goToAddress() {
            int address = takeAddress();
            if (address == NONE) {
                return false;
            }
            place = address;
            return true;
        }

        private boolean startField(int attribute) {
            if (attribute == NONE) {
                return false;
            }
            putAndGoOn(Screen.ATTRIBUTE + attribute);
            return true;
        }

        private boolean changeAttribute() {
            int held = screen.get(place);
            if (held < Screen.ATTRIBUTE) {
                return false;
            }
            return startField(takePairs(held - Screen.ATTRIBUTE));
        }

        private void tab() {
            if (signJustPut) {
                emptyUpToAttribute();
            }
            int stop = 0;
            for (int at = screen.size - 1; at >= place; at--) {
                if (screen.startsOpenField(at)) {
                    stop = screen.after(at);
                }
            }
            place = stop;
        }

        private void emptyUpToAttribute() {
            for (int at = place; at < screen.size && screen.get(at) < Screen.ATTRIBUTE; at++) {
                screen.put(at, 0);
            }
        }

        private boolean repeatToAddress() {
            int address = takeAddress();
            int sign = take();
            if (address == NONE || !isSign(sign)) {
                return false;
            }
            screen.fill(place, screen.stepsTo(place, address), sign);
            place = address;
            return true;
        }

        private boolean eraseToAddress() {
            int address = takeAddress();
            if (address == NONE) {
                return false;
            }
            screen.emptyOpenCells(place, screen.stepsTo(place, address));
            place = address;
            return true;
        }

        private boolean putTakenSign() {
            int sign = take();
            if (!isSign(sign)) {
                return false;
            }
            putAndGoOn(sign);
            return true;
        }
    }
}
