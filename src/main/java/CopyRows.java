/** Rows of six kinds in places: made, shared, moved at once and one by one, joined, turned, summed and compared. */
public final class CopyRows {
    public static final int NONE = -1, OUTSIDE = -2000000001;

    private static final int PLACES = 12, LONGEST = 40;

    private static final int BYTES = 0, INTS = 1, TABLES = 2, THINGS = 3, LEAVES = 4, NODES = 5, LUMP = 6;

    private static final int LEAF = 1, NODE = 2;

    private static final int DONE = 0, IS_NOTHING = 1, NO_FIT = 2, NO_ITEM = 3;
    private static final int BELOW_ZERO = 4, OTHER_KIND = 5, NO_LENGTH = 6;

    // Sets of KINDS, a bit for each, so that one question serves every call that takes some of them.
    private static final int NUMBER_KINDS = 1 << BYTES | 1 << INTS;
    private static final int SUMMED_KINDS = NUMBER_KINDS | 1 << TABLES;
    private static final int THING_KINDS = 1 << THINGS | 1 << LEAVES | 1 << NODES;
    private static final int ROW_KINDS = SUMMED_KINDS | THING_KINDS;

    private final Row[] places;
    private int code;

    public CopyRows() {
        places = new Row[PLACES];
        code = DONE;
    }

    public int code() {
        return code;
    }

    public int make(int place, int kind, int n) {
        if (isOutside(place) || kind < BYTES || kind > NODES || n > LONGEST) {
            return OUTSIDE;
        }
        if (n < 0) {
            return fail(BELOW_ZERO);
        }
        return put(place, new Row(kind, n));
    }

    public int share(int place, int other) {
        if (isOutside(place) || isOutside(other)) {
            return OUTSIDE;
        }
        places[place] = places[other];
        return kindOf(places[place]);
    }

    public int nothing(int place) {
        if (isOutside(place)) {
            return OUTSIDE;
        }
        int before = kindOf(places[place]);
        places[place] = null;
        return before;
    }

    public int lump(int place) {
        if (isOutside(place)) {
            return OUTSIDE;
        }
        places[place] = new Row(LUMP, 0);
        return 1;
    }

    public int kind(int place) {
        return isOutside(place) ? OUTSIDE : kindOf(places[place]);
    }

    public int length(int place) {
        if (isOutside(place)) {
            return OUTSIDE;
        }
        Row row = rowOf(place, ROW_KINDS);
        return row == null ? 0 : row.length;
    }

    public int set(int place, int k, int v) {
        if (isOutside(place)) {
            return OUTSIDE;
        }
        Row row = rowOf(place, NUMBER_KINDS);
        if (row == null) {
            return 0;
        }
        if (!row.has(k)) {
            return fail(NO_ITEM);
        }
        int before = row.numbers[k];
        row.numbers[k] = row.kind == BYTES ? (byte) v : v;
        return before;
    }

    public int thing(int place, int k, int cls, int number) {
        if (isOutside(place) || cls < NONE || cls > NODE) {
            return OUTSIDE;
        }
        Row row = rowOf(place, THING_KINDS);
        if (row == null) {
            return 0;
        }
        if (!row.has(k)) {
            return fail(NO_ITEM);
        }
        Part made = cls == NONE ? null : new Thing(cls, number);
        if (!row.takes(made)) {
            return fail(NO_FIT);
        }
        row.parts[k] = made;
        return 1;
    }

    public int hang(int place, int k, int other) {
        if (isOutside(place) || isOutside(other)) {
            return OUTSIDE;
        }
        Row table = rowOf(place, 1 << TABLES);
        if (table == null) {
            return 0;
        }
        Row hung = places[other];
        if (hung != null && hung.kind != INTS) {
            return fail(OTHER_KIND);
        }
        if (!table.has(k)) {
            return fail(NO_ITEM);
        }
        table.parts[k] = hung;
        return 1;
    }

    public int item(int place, int k) {
        if (isOutside(place)) {
            return OUTSIDE;
        }
        Row row = rowOf(place, ROW_KINDS);
        if (row == null) {
            return 0;
        }
        if (!row.has(k)) {
            return fail(NO_ITEM);
        }
        if (row.isOfNumbers()) {
            return row.numbers[k];
        }
        Part part = row.parts[k];
        return part == null ? fail(IS_NOTHING) : part.shown();
    }

    public int classOf(int place, int k) {
        if (isOutside(place)) {
            return OUTSIDE;
        }
        Row row = rowOf(place, THING_KINDS);
        if (row == null) {
            return 0;
        }
        if (!row.has(k)) {
            return fail(NO_ITEM);
        }
        return row.parts[k] instanceof Thing thing ? thing.cls : NONE;
    }

    public int move(int x, int i, int y, int j, int n) {
        if (isOutside(x) || isOutside(y)) {
            return OUTSIDE;
        }
        Row from = places[x];
        Row to = places[y];
        if (from == null || to == null) {
            return fail(IS_NOTHING);
        }
        if (!to.mayTakeOf(from)) {
            return fail(NO_FIT);
        }
        if (!from.hasRange(i, n) || !to.hasRange(j, n)) {
            return fail(NO_ITEM);
        }
        int moved = to.countTaken(from, i, n);
        to.take(from, i, j, moved);
        code = moved < n ? NO_FIT : DONE;
        return moved;
    }

    public int loop(int x, int i, int y, int j, int n) {
        if (isOutside(x) || isOutside(y)) {
            return OUTSIDE;
        }
        Row from = places[x];
        Row to = places[y];
        if (from == null || to == null) {
            return fail(IS_NOTHING);
        }
        if (!to.mayTakeOf(from)) {
            return fail(NO_FIT);
        }
        code = DONE;
        for (int moved = 0; moved < n; moved++) {
            code = moveOne(from, i + moved, to, j + moved);
            if (code != DONE) {
                return moved;
            }
        }
        return Math.max(n, 0);
    }

    public int copy(int place, int other) {
        if (isOutside(place) || isOutside(other)) {
            return OUTSIDE;
        }
        Row row = rowOf(other, ROW_KINDS);
        return row == null ? 0 : put(place, row.cut(0, row.length));
    }

    public int slice(int place, int other, int i, int n) {
        if (isOutside(place) || isOutside(other)) {
            return OUTSIDE;
        }
        Row row = rowOf(other, ROW_KINDS);
        if (row == null) {
            return 0;
        }
        if (n < 0) {
            return fail(BELOW_ZERO);
        }
        if (!row.hasRange(i, n)) {
            return fail(NO_ITEM);
        }
        return put(place, row.cut(i, n));
    }

    public int join(int place, int a, int b) {
        if (isOutside(place) || isOutside(a) || isOutside(b)) {
            return OUTSIDE;
        }
        Row first = places[a];
        Row second = places[b];
        if (first == null || second == null) {
            return fail(IS_NOTHING);
        }
        if (first.kind == LUMP || second.kind == LUMP) {
            return fail(OTHER_KIND);
        }
        if (first.length + second.length > LONGEST) {
            return fail(NO_ITEM);
        }
        if (!first.mayTakeOf(second) || first.countTaken(second, 0, second.length) < second.length) {
            return fail(NO_FIT);
        }
        Row joined = new Row(first.kind, first.length + second.length);
        joined.take(first, 0, 0, first.length);
        joined.take(second, 0, first.length, second.length);
        return put(place, joined);
    }

    public int update(int place, int indexes, int values) {
        if (isOutside(place) || isOutside(indexes) || isOutside(values)) {
            return OUTSIDE;
        }
        Row to = places[place];
        Row which = places[indexes];
        Row from = places[values];
        if (to == null || which == null || from == null) {
            return fail(IS_NOTHING);
        }
        if (to.kind != INTS || which.kind != INTS || from.kind != INTS) {
            return fail(OTHER_KIND);
        }
        code = DONE;
        for (int t = 0; t < which.length; t++) {
            // Read in each round: the call may be changing the ROW of indexes itself.
            int k = which.numbers[t];
            if (!from.has(k) || !to.has(k)) {
                code = NO_ITEM;
                return t;
            }
            to.numbers[k] = from.numbers[k];
        }
        return which.length;
    }

    public int rotate(int place, int by) {
        if (isOutside(place)) {
            return OUTSIDE;
        }
        Row row = rowOf(place, ROW_KINDS);
        if (row == null) {
            return 0;
        }
        if (row.length == 0) {
            return fail(NO_LENGTH);
        }
        int start = Math.floorMod(by, row.length);
        Row before = row.cut(0, row.length);
        row.take(before, 0, start, row.length - start);
        row.take(before, row.length - start, 0, start);
        return start;
    }

    public int sum(int place) {
        if (isOutside(place)) {
            return OUTSIDE;
        }
        Row row = rowOf(place, SUMMED_KINDS);
        if (row == null) {
            return 0;
        }
        return row.kind == TABLES ? sumOfTable(row) : row.total();
    }

    public int mean(int place) {
        if (isOutside(place)) {
            return OUTSIDE;
        }
        Row row = rowOf(place, NUMBER_KINDS);
        if (row == null) {
            return 0;
        }
        return row.length == 0 ? fail(NO_LENGTH) : row.total() / row.length;
    }

    public int same(int a, int b) {
        if (isOutside(a) || isOutside(b)) {
            return OUTSIDE;
        }
        return places[a] == places[b] ? 1 : 0;
    }

    public int equal(int a, int b) {
        if (isOutside(a) || isOutside(b)) {
            return OUTSIDE;
        }
        Row one = places[a];
        Row two = places[b];
        if (one == two) {
            return 1;
        }
        if (one == null || two == null || one.kind == LUMP) {
            return 0;
        }
        return one.isLike(two) ? 1 : 0;
    }

    public int compare(int a, int b) {
        if (isOutside(a) || isOutside(b)) {
            return OUTSIDE;
        }
        Row one = places[a];
        Row two = places[b];
        if (one == null || two == null) {
            return fail(IS_NOTHING);
        }
        if (!one.isOfNumbers() || one.kind != two.kind) {
            return fail(OTHER_KIND);
        }
        code = DONE;
        return one.order(two);
    }

    public int held(int place) {
        if (isOutside(place)) {
            return OUTSIDE;
        }
        Row sought = places[place];
        if (sought == null) {
            return 0;
        }
        int count = 0;
        for (int p = 0; p < PLACES; p++) {
            Row row = places[p];
            if (row == sought) {
                count++;
            }
            if (row != null && isFirstHeldAt(row, p)) {
                count += row.countOf(sought);
            }
        }
        return count;
    }

    private static boolean isOutside(int place) {
        return place < 0 || place >= PLACES;
    }

    private static int kindOf(Row row) {
        return row == null ? NONE : row.kind;
    }

    private int fail(int why) {
        code = why;
        return 0;
    }

    private int put(int place, Row row) {
        places[place] = row;
        code = DONE;
        return row.length;
    }

    /** The ROW in a PLACE, if it is of one of these KINDS; else null. Either way CODE tells which it was. */
    private Row rowOf(int place, int kinds) {
        Row row = places[place];
        if (row == null) {
            code = IS_NOTHING;
            return null;
        }
        if ((kinds >> row.kind & 1) == 0) {
            code = OTHER_KIND;
            return null;
        }
        code = DONE;
        return row;
    }

    private static int moveOne(Row from, int i, Row to, int j) {
        if (!from.has(i) || !to.has(j)) {
            return NO_ITEM;
        }
        if (to.countTaken(from, i, 1) < 1) {
            return NO_FIT;
        }
        to.take(from, i, j, 1);
        return DONE;
    }

    private int sumOfTable(Row table) {
        int total = 0;
        for (int t = 0; t < table.length; t++) {
            if (table.parts[t] instanceof Row row) {
                total += row.total();
            } else {
                return fail(IS_NOTHING);
            }
        }
        return total;
    }

    private boolean isFirstHeldAt(Row row, int place) {
        for (int p = 0; p < place; p++) {
            if (places[p] == row) {
                return false;
            }
        }
        return true;
    }

    /** What an ITEM of TABLES, THINGS, LEAVES or NODES can be, beside nothing. */
    private abstract static class Part {
        abstract boolean fitsInto(int rowKind);

        abstract int shown();
    }

    private static final class Thing extends Part {
        final int cls;
        final int number;

        Thing(int cls, int number) {
            this.cls = cls;
            this.number = number;
        }

        boolean fitsInto(int rowKind) {
            return rowKind == THINGS || rowKind == LEAVES && cls == LEAF || rowKind == NODES && cls == NODE;
        }

        int shown() {
            return number;
        }
    }

    /**
     * A ROW, or a LUMP: that is a ROW of a KIND of its own without ITEMS here, so that a PLACE holds one type.
     * The ITEMS stand in numbers (BYTES, INTS) or in parts (all others); the one not used is empty.
     */
    private static final class Row extends Part {
        final int kind;
        final int length;
        final int[] numbers;
        final Part[] parts;

        /** The length is 0 to LONGEST: callers have looked. */
        Row(int kind, int length) {
            boolean ofNumbers = kind == BYTES || kind == INTS;
            this.kind = kind;
            this.length = length;
            this.numbers = new int[ofNumbers ? length : 0];
            this.parts = new Part[ofNumbers ? 0 : length];
        }

        boolean fitsInto(int rowKind) {
            return rowKind == TABLES;
        }

        int shown() {
            return length;
        }

        boolean isOfNumbers() {
            return kind == BYTES || kind == INTS;
        }

        boolean has(int k) {
            return k >= 0 && k < length;
        }

        /** Whether ITEMS i to i + n - 1 are here; i may be the length if n is 0. */
        boolean hasRange(int i, int n) {
            // Not i + n <= length: that sum can wrap.
            return i >= 0 && n >= 0 && i <= length && n <= length - i;
        }

        boolean takes(Part part) {
            return part == null || part.fitsInto(kind);
        }

        /** Whether ITEMS of another ROW can go in here at all, whatever they are. */
        boolean mayTakeOf(Row from) {
            if (kind == LUMP || from.kind == LUMP) {
                return false;
            }
            return kind == from.kind || !isOfNumbers() && !from.isOfNumbers();
        }

        /** How many of n ITEMS of another ROW, from i on, go in here before one does not fit; they are there. */
        int countTaken(Row from, int i, int n) {
            if (isOfNumbers()) {
                return n;
            }
            for (int count = 0; count < n; count++) {
                if (!takes(from.parts[i + count])) {
                    return count;
                }
            }
            return n;
        }

        /** Moves n ITEMS that are there, have room here and fit: callers have looked. */
        void take(Row from, int i, int j, int n) {
            if (isOfNumbers()) {
                System.arraycopy(from.numbers, i, numbers, j, n);
            } else {
                System.arraycopy(from.parts, i, parts, j, n);
            }
        }

        /** A new ROW with n ITEMS of this one, from i on, that are there: callers have looked. */
        Row cut(int i, int n) {
            Row row = new Row(kind, n);
            row.take(this, i, 0, n);
            return row;
        }

        int total() {
            int total = 0;
            for (int t = 0; t < numbers.length; t++) {
                total += numbers[t];
            }
            return total;
        }

        boolean isLike(Row other) {
            if (kind != other.kind || length != other.length) {
                return false;
            }
            for (int t = 0; t < length; t++) {
                boolean differs = isOfNumbers() ? numbers[t] != other.numbers[t] : parts[t] != other.parts[t];
                if (differs) {
                    return false;
                }
            }
            return true;
        }

        /** -1, 0 or 1 as this ROW of numbers is below, like or above another one. */
        int order(Row other) {
            for (int t = 0; t < numbers.length && t < other.numbers.length; t++) {
                if (numbers[t] != other.numbers[t]) {
                    return numbers[t] < other.numbers[t] ? -1 : 1;
                }
            }
            if (length == other.length) {
                return 0;
            }
            return length < other.length ? -1 : 1;
        }

        int countOf(Row sought) {
            int count = 0;
            for (int t = 0; t < parts.length; t++) {
                if (parts[t] == sought) {
                    count++;
                }
            }
            return count;
        }
    }
}
