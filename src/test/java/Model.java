import java.util.ArrayList;
import java.util.List;

/**
 * The document once more, written without regard to LANGUAGE.md or speed: what random runs are held against. It asks
 * lists of addresses where the program walks over cells, so that one slip is not made twice.
 */
final class Model {
    private static final int NONE = -1;

    private final int allRows;
    private final int allColumns;
    private int rows;
    private int columns;
    private int[] cells;
    private int cursor = 0;
    private boolean locked = true;
    private boolean insert = false;
    private int alarms = 0;
    private int rejects = 0;
    private int latest = 96;
    private List<Integer> waiting = new ArrayList<>();
    private final List<Integer> came = new ArrayList<>();

    Model(int rows, int columns) {
        allRows = Math.min(Math.max(rows, 1), 43);
        allColumns = Math.min(Math.max(columns, 1), 132);
        erase(allRows, allColumns);
    }

    private void erase(int newRows, int newColumns) {
        rows = newRows;
        columns = newColumns;
        cells = new int[rows * columns];
        cursor = 0;
    }

    private void eraseToSmall() {
        erase(Math.min(24, allRows), Math.min(80, allColumns));
    }

    private int round(int address) {
        return Math.floorMod(address, cells.length);
    }

    private boolean isAttribute(int address) {
        return cells[round(address)] >= 256;
    }

    private List<Integer> attributes() {
        List<Integer> all = new ArrayList<>();
        for (int at = 0; at < cells.length; at++) {
            if (isAttribute(at)) {
                all.add(at);
            }
        }
        return all;
    }

    /** The address of the attribute of a cell's field. */
    private int ownerOf(int address) {
        List<Integer> all = attributes();
        int owner = all.isEmpty() ? NONE : all.get(all.size() - 1);
        for (int attribute : all) {
            if (attribute <= address) {
                owner = attribute;
            }
        }
        return owner;
    }

    /** The addresses of the cells of the field of an attribute, in their order. */
    private List<Integer> fieldOf(int attribute) {
        List<Integer> field = new ArrayList<>();
        for (int at = attribute + 1; !isAttribute(at); at++) {
            field.add(round(at));
        }
        return field;
    }

    /** The cells from an address to its field's end, without fields to the screen's. */
    private List<Integer> restFrom(int address) {
        List<Integer> rest = new ArrayList<>();
        if (attributes().isEmpty()) {
            for (int at = address; at < cells.length; at++) {
                rest.add(at);
            }
            return rest;
        }
        List<Integer> field = fieldOf(ownerOf(address));
        return field.subList(field.indexOf(address), field.size());
    }

    private boolean isProtected(int address) {
        int owner = ownerOf(address);
        return owner != NONE && (cells[owner] & 32) != 0;
    }

    private boolean mayBeTypedIn(int address) {
        return !isAttribute(address) && !isProtected(address);
    }

    private void markModified(int address) {
        if (ownerOf(address) != NONE) {
            cells[ownerOf(address)] |= 1;
        }
    }

    int sign(int row, int column) {
        if (row < 0 || row >= rows || column < 0 || column >= columns) {
            return -2;
        }
        int at = row * columns + column;
        return isAttribute(at) ? NONE : cells[at];
    }

    int attribute(int row, int column) {
        if (row < 0 || row >= rows || column < 0 || column >= columns) {
            return -2;
        }
        int at = row * columns + column;
        if (isAttribute(at)) {
            return cells[at];
        }
        return ownerOf(at) == NONE ? NONE : cells[ownerOf(at)] - 256;
    }

    int field(int i, int what) {
        if (i < 0 || i >= attributes().size()) {
            return NONE;
        }
        int attribute = attributes().get(i);
        switch (what) {
            case 0:
                return attribute;
            case 1:
                return cells[attribute] - 256;
            case 2:
                return fieldOf(attribute).size();
            case 3:
                return (int) fieldOf(attribute).stream().filter(at -> cells[at] != 0).count();
            default:
                return NONE;
        }
    }

    boolean modified(int i) {
        return i >= 0 && i < attributes().size() && cells[attributes().get(i)] % 2 == 1;
    }

    int cursor() {
        return cursor;
    }

    boolean locked() {
        return locked;
    }

    int inbound() {
        return waiting.size();
    }

    /** The byte, or null where it throws. */
    Byte octet(int i) {
        return i < 0 || i >= waiting.size() ? null : Byte.valueOf(waiting.get(i).byteValue());
    }

    /** What an address has, or null where it throws. */
    Integer cell(int address) {
        return address < 0 || address >= cells.length ? null : Integer.valueOf(cells[address]);
    }

    int count(int what) {
        int[] all = {rows, columns, attributes().size(), alarms, rejects, insert ? 1 : 0, latest};
        return what < 0 || what >= all.length ? NONE : all[what];
    }

    private static boolean isShort(int sent) {
        return sent == 107 || sent == 108 || sent == 109 || sent == 110;
    }

    private void makeStream(boolean all) {
        List<Integer> bytes = new ArrayList<>();
        bytes.add(latest);
        if (!isShort(latest)) {
            addAddress(bytes, cursor);
            if (all) {
                addCells(bytes);
            } else if (attributes().isEmpty()) {
                addSigns(bytes, restFrom(0));
            } else {
                addFields(bytes);
            }
        }
        waiting = new ArrayList<>();
        for (int b : bytes) {
            waiting.add(b);
            if (b == 255) {
                waiting.add(b);
            }
        }
        waiting.add(255);
        waiting.add(239);
    }

    private void addAddress(List<Integer> bytes, int address) {
        boolean sixBits = cells.length <= 4096;
        bytes.add(sixBits ? 64 + address / 64 : address / 256);
        bytes.add(sixBits ? 64 + address % 64 : address % 256);
    }

    private void addCells(List<Integer> bytes) {
        for (int held : cells) {
            if (held >= 256) {
                bytes.add(29);
            }
            bytes.add(held % 256);
        }
    }

    private void addSigns(List<Integer> bytes, List<Integer> addresses) {
        for (int at : addresses) {
            if (cells[at] != 0) {
                bytes.add(cells[at]);
            }
        }
    }

    private void addFields(List<Integer> bytes) {
        for (int attribute : attributes()) {
            if (cells[attribute] % 2 == 1) {
                bytes.add(17);
                addAddress(bytes, round(attribute + 1));
                addSigns(bytes, fieldOf(attribute));
            }
        }
    }

    int type(int c) {
        if (c < 64 || c > 254) {
            return NONE;
        }
        if (locked) {
            return 0;
        }
        boolean numeric = ownerOf(cursor) != NONE && (cells[ownerOf(cursor)] & 16) != 0;
        boolean digit = c >= 240 && c <= 249 || c == 75 || c == 96;
        if (!mayBeTypedIn(cursor) || numeric && !digit || insert && !movedOn()) {
            locked = true;
            return 0;
        }
        cells[cursor] = c;
        markModified(cursor);
        int next = round(cursor + 1);
        if (!isAttribute(next)) {
            cursor = next;
        } else if ((cells[next] & 48) == 48) {
            cursor = tabFrom(next);
        } else {
            cursor = round(next + 1);
        }
        return 1;
    }

    private boolean movedOn() {
        List<Integer> rest = restFrom(cursor);
        int empty = 0;
        while (empty < rest.size() && cells[rest.get(empty)] != 0) {
            empty++;
        }
        if (empty == rest.size()) {
            return false;
        }
        for (int n = empty; n > 0; n--) {
            cells[rest.get(n)] = cells[rest.get(n - 1)];
        }
        return true;
    }

    private boolean isTabStop(int attribute) {
        int at = round(attribute);
        return isAttribute(at) && (cells[at] & 32) == 0 && !isAttribute(at + 1);
    }

    private int tabFrom(int from) {
        for (int at = from; at < from + cells.length; at++) {
            if (isTabStop(at)) {
                return round(at + 1);
            }
        }
        return 0;
    }

    private int backTabFrom(int from) {
        for (int at = from - 1; at >= from - cells.length; at--) {
            if (isTabStop(at - 1)) {
                return round(at);
            }
        }
        return 0;
    }

    private int typeableFrom(int from) {
        for (int at = from; at < from + cells.length; at++) {
            if (mayBeTypedIn(round(at))) {
                return round(at);
            }
        }
        return 0;
    }

    int key(int code) {
        int sent = sentBy(code);
        if (sent == NONE && (code < 40 || code > 52)) {
            return NONE;
        }
        if (code == 51) {
            insert = false;
            locked = false;
            return 1;
        }
        if (locked) {
            return 0;
        }
        if (sent != NONE) {
            latest = sent;
            makeStream(false);
            locked = true;
            if (code == 2) {
                eraseToSmall();
            }
            return 1;
        }
        return code == 48 || code == 52 ? editBy(code) : moveBy(code);
    }

    private static int sentBy(int code) {
        int[] low = {NONE, 125, 109, 108, 110, 107};
        if (code >= 0 && code < low.length) {
            return low[code];
        }
        if (code >= 11 && code <= 19) {
            return 230 + code;
        }
        return code >= 20 && code <= 22 ? 102 + code : NONE;
    }

    private int moveBy(int code) {
        switch (code) {
            case 40:
                cursor = tabFrom(cursor);
                break;
            case 41:
                cursor = backTabFrom(cursor);
                break;
            case 42:
                cursor = typeableFrom(round((cursor / columns + 1) * columns));
                break;
            case 43:
                cursor = tabFrom(cells.length - 1);
                break;
            case 44:
                cursor = round(cursor - 1);
                break;
            case 45:
                cursor = round(cursor + 1);
                break;
            case 46:
                cursor = round(cursor - columns);
                break;
            case 47:
                cursor = round(cursor + columns);
                break;
            case 49:
                eraseOpen();
                break;
            default:
                insert = true;
                break;
        }
        return 1;
    }

    private int editBy(int code) {
        if (!mayBeTypedIn(cursor)) {
            locked = true;
            return 0;
        }
        List<Integer> rest = new ArrayList<>(restFrom(cursor));
        if (code == 48) {
            rest.forEach(at -> cells[at] = 0);
        } else {
            rest.removeIf(at -> at < cursor || at / columns != cursor / columns);
            for (int n = 0; n + 1 < rest.size(); n++) {
                cells[rest.get(n)] = cells[rest.get(n + 1)];
            }
            cells[rest.get(rest.size() - 1)] = 0;
        }
        markModified(cursor);
        return 1;
    }

    private void eraseOpen() {
        for (int at = 0; at < cells.length; at++) {
            if (mayBeTypedIn(at)) {
                cells[at] = 0;
            } else if (isAttribute(at) && (cells[at] & 32) == 0) {
                cells[at] &= ~1;
            }
        }
        cursor = typeableFrom(0);
        waiting = new ArrayList<>();
    }

    /** Keeps every byte as it came and takes the stream apart when its end is there. */
    int out(int b) {
        came.add(b & 255);
        List<Integer> bytes = new ArrayList<>();
        boolean spoiled = false;
        int i = 0;
        while (i < came.size()) {
            int code = came.get(i);
            if (code == 255) {
                i++;
                if (i == came.size()) {
                    return 0;
                }
                int next = came.get(i);
                if (next == 239) {
                    came.clear();
                    return perform(bytes, spoiled);
                }
                spoiled |= next != 255;
            }
            if (!spoiled) {
                bytes.add(code);
            }
            i++;
        }
        return 0;
    }

    private int perform(List<Integer> bytes, boolean spoiled) {
        int orders = NONE;
        int command = bytes.isEmpty() ? NONE : bytes.get(0);
        boolean alone = bytes.size() == 1 && !spoiled;
        if (command == 245) {
            eraseToSmall();
        } else if (command == 126) {
            erase(allRows, allColumns);
        }
        if (command == 245 || command == 126 || command == 241) {
            orders = write(bytes, spoiled);
        } else if (command == 111) {
            eraseOpen();
            locked = false;
            orders = alone ? 0 : NONE;
        } else if ((command == 242 || command == 246 || command == 110) && alone) {
            makeStream(command == 242);
            orders = 0;
        }
        if (orders == NONE) {
            rejects++;
            locked = true;
            return NONE;
        }
        return 1 + orders;
    }

    private int write(List<Integer> bytes, boolean spoiled) {
        if (bytes.size() < 2) {
            return NONE;
        }
        int control = bytes.get(1);
        if (control % 2 == 1) {
            attributes().forEach(at -> cells[at] &= ~1);
        }
        alarms += control / 4 % 2;
        int place = cursor;
        int orders = 0;
        boolean signBefore = false;
        int i = 2;
        while (i < bytes.size()) {
            int code = bytes.get(i);
            int length = lengthOf(bytes, i);
            if (length == NONE || i + length > bytes.size()) {
                return NONE;
            }
            place = perform(bytes.subList(i, i + length), place, signBefore);
            if (place == NONE) {
                return NONE;
            }
            orders += code == 0 || code >= 64 ? 0 : 1;
            signBefore = code == 0 || code >= 64 || code == 8;
            i += length;
        }
        if (spoiled) {
            return NONE;
        }
        if (control / 2 % 2 == 1) {
            locked = false;
            waiting = new ArrayList<>();
        }
        return orders;
    }

    /** How many bytes a sign or an order has, NONE where it can't be. */
    private static int lengthOf(List<Integer> bytes, int i) {
        switch (bytes.get(i)) {
            case 5:
            case 19:
                return 1;
            case 8:
            case 29:
                return 2;
            case 17:
            case 18:
                return 3;
            case 60:
                return 4;
            case 41:
            case 44:
                return i + 1 < bytes.size() ? 2 + 2 * bytes.get(i + 1) : NONE;
            default:
                return bytes.get(i) == 0 || bytes.get(i) >= 64 ? 1 : NONE;
        }
    }

    /** Does a whole sign or order; answers where the place is then, NONE for a reject. */
    private int perform(List<Integer> order, int place, boolean signBefore) {
        switch (order.get(0)) {
            case 17:
                return address(order);
            case 18:
            case 60:
                return fill(order, place);
            case 19:
                cursor = place;
                return place;
            case 5:
                return tab(place, signBefore);
            case 8:
                return order.get(1) == 0 || order.get(1) >= 64 ? put(place, order.get(1)) : NONE;
            case 29:
                return put(place, 256 + order.get(1));
            case 41:
                return put(place, 256 + pairs(order, 0));
            case 44:
                return isAttribute(place) ? put(place, 256 + pairs(order, cells[place] - 256)) : NONE;
            default:
                return put(place, order.get(0));
        }
    }

    private int put(int place, int held) {
        cells[place] = held;
        return round(place + 1);
    }

    private static int pairs(List<Integer> order, int without) {
        int attribute = without;
        for (int i = 2; i < order.size(); i += 2) {
            attribute = order.get(i) == 192 ? order.get(i + 1) : attribute;
        }
        return attribute;
    }

    private int address(List<Integer> order) {
        int first = order.get(1);
        int second = order.get(2);
        int address = first < 64 ? 256 * first + second : 64 * (first % 64) + second % 64;
        return address < cells.length ? address : NONE;
    }

    private int fill(List<Integer> order, int place) {
        int address = address(order);
        boolean repeats = order.get(0) == 60;
        if (address == NONE || repeats && order.get(3) > 0 && order.get(3) < 64) {
            return NONE;
        }
        int at = place;
        do {
            if (repeats) {
                cells[at] = order.get(3);
            } else if (mayBeTypedIn(at)) {
                cells[at] = 0;
            }
            at = round(at + 1);
        } while (at != address);
        return address;
    }

    private int tab(int place, boolean signBefore) {
        if (signBefore) {
            for (int at = place; at < cells.length && !isAttribute(at); at++) {
                cells[at] = 0;
            }
        }
        for (int attribute : attributes()) {
            if (attribute >= place && (cells[attribute] & 32) == 0) {
                return round(attribute + 1);
            }
        }
        return 0;
    }
}
