/** Promises 16 to 20: each sentence that names an edge has a test here. What is refused stands in RefusedTest. */
public final class EdgesOfRowsTest {
    private static final int NONE = CopyRows.NONE, MAX = Integer.MAX_VALUE, MIN = Integer.MIN_VALUE;

    public static void main(String[] args) {
        copySizes();
        copyItemsAreTheSame();
        copyOverItself();
        for (int kind = 0; kind <= 5; kind++) {
            sliceNumbers(kind);
            joinLengths(kind);
        }
        sliceOfAFullRow();
        sliceOverItself();
        joinKinds();
        joinFits();
        joinOverItself();
        updateRange();
        valuesFirst();
        updateAsAllAreByThen();
        updateSizes();
        for (int length = 0; length <= 40; length++) {
            rotateNumbers(length);
        }
        rotateKinds();
        Check.end();
    }

    private static void copySizes() {
        for (int kind = 0; kind <= 5; kind++) {
            Check c = new Check("promise 16: \"a new ROW of the KIND and with the ITEMS of another one's\"");
            int[] sizes = {0, 1, 40};
            for (int n : sizes) {
                c.x.make(0, kind, n);
                c.x.length(9);
                c.told("copy(1, 0) of KIND " + kind + ", length " + n, c.x.copy(1, 0), n, 0);
                c.due("kind(1)", c.x.kind(1), kind);
                c.told("length(1)", c.x.length(1), n, 0);
                c.due("same(0, 1)", c.x.same(0, 1), 0);
                c.due("equal(0, 1)", c.x.equal(0, 1), 1);
            }
        }
    }

    private static void copyItemsAreTheSame() {
        Check c = new Check("promise 16: \"(ITEMS themselves are the same)\"");
        c.numbers(0, 1, 5);
        c.x.make(1, 2, 2);
        c.x.hang(1, 0, 0);
        c.told("copy(2, 1)", c.x.copy(2, 1), 2, 0);
        c.due("held(0)", c.x.held(0), 3);
        c.told("hang(2, 1, 0): the ROW is another one", c.x.hang(2, 1, 0), 1, 0);
        c.told("item(1, 1)", c.x.item(1, 1), 0, 1);
        c.things(3, 3, 7, 108, 209, NONE);
        c.told("copy(4, 3)", c.x.copy(4, 3), 4, 0);
        c.due("equal(3, 4)", c.x.equal(3, 4), 1);
        c.holdsThings(4, 7, 108, 209, NONE);
        c.numbers(5, 0, -128, 127);
        c.x.copy(6, 5);
        c.x.set(5, 0, 1);
        c.holdsNumbers(6, -128, 127);
    }

    private static void copyOverItself() {
        Check c = new Check("promise 16, a PLACE of itself, and over others");
        c.numbers(0, 1, 5, 6);
        c.x.share(1, 0);
        c.told("copy(0, 0)", c.x.copy(0, 0), 2, 0);
        c.due("same(0, 1)", c.x.same(0, 1), 0);
        c.due("equal(0, 1)", c.x.equal(0, 1), 1);
        c.x.lump(2);
        c.told("copy(2, 0) over a LUMP", c.x.copy(2, 0), 2, 0);
        c.due("kind(2)", c.x.kind(2), 1);
        c.told("copy(0, 9)", c.x.copy(0, 9), 0, 1);
        c.told("copy(9, 9)", c.x.copy(9, 9), 0, 1);
        c.holdsNumbers(0, 5, 6);
    }

    private static void sliceNumbers(int kind) {
        int[] edges = {MIN, -1, 0, 1, 2, 3, 4, MAX};
        for (int length = 0; length <= 3; length++) {
            for (int i : edges) {
                Check c = new Check("promise 17: \"0 with CODE 1, 5 (a LUMP), 4 (n below 0), 3\"");
                c.x.make(0, kind, length);
                for (int n : edges) {
                    c.x.lump(1);
                    boolean there = i >= 0 && (long) i + n <= length;
                    int code = n < 0 ? 4 : there ? 0 : 3;
                    String what = "slice(1, 0, " + i + ", " + n + ") of length " + length;
                    c.told(what, c.x.slice(1, 0, i, n), code == 0 ? n : 0, code);
                    c.due("kind(1) after " + what, c.x.kind(1), code == 0 ? kind : 6);
                    c.told("length(1) after " + what, c.x.length(1), code == 0 ? n : 0, code == 0 ? 0 : 5);
                }
            }
        }
    }

    private static void sliceOfAFullRow() {
        Check c = new Check("promise 17: \"n ITEMS of another one's, from ITEM i on\"");
        c.x.make(0, 1, 40);
        c.x.set(0, 0, 10);
        c.x.set(0, 39, 49);
        c.told("slice(1, 0, 0, 40)", c.x.slice(1, 0, 0, 40), 40, 0);
        c.due("equal(0, 1)", c.x.equal(0, 1), 1);
        c.due("same(0, 1)", c.x.same(0, 1), 0);
        c.told("slice(1, 0, 39, 1)", c.x.slice(1, 0, 39, 1), 1, 0);
        c.holdsNumbers(1, 49);
        c.told("slice(1, 0, 0, 1)", c.x.slice(1, 0, 0, 1), 1, 0);
        c.holdsNumbers(1, 10);
        c.told("slice(1, 0, 40, 0)", c.x.slice(1, 0, 40, 0), 0, 0);
        c.holdsNumbers(1);
        c.told("slice(1, 0, 0, 41)", c.x.slice(1, 0, 0, 41), 0, 3);
        c.told("slice(1, 0, 40, 1)", c.x.slice(1, 0, 40, 1), 0, 3);
        c.told("slice(1, 0, 41, 0)", c.x.slice(1, 0, 41, 0), 0, 3);
    }

    private static void sliceOverItself() {
        Check c = new Check("promise 17, a PLACE of itself");
        c.things(0, 4, 101, NONE, 103);
        c.x.share(1, 0);
        c.told("slice(0, 0, 1, 2)", c.x.slice(0, 0, 1, 2), 2, 0);
        c.holdsThings(0, NONE, 103);
        c.holdsThings(1, 101, NONE, 103);
        c.told("slice(2, 1, 1, 2)", c.x.slice(2, 1, 1, 2), 2, 0);
        c.due("equal(0, 2): ITEMS themselves are the same", c.x.equal(0, 2), 1);
        c.x.thing(0, 0, 1, 5);
        c.holdsThings(1, 101, NONE, 103);
    }

    private static void joinLengths(int kind) {
        int[] edges = {0, 1, 19, 20, 21, 39, 40};
        for (int a : edges) {
            Check c = new Check("promise 18: \"3 (above 40 together)\"");
            c.x.make(0, kind, a);
            for (int b : edges) {
                c.x.make(1, kind, b);
                c.x.lump(2);
                boolean fits = a + b <= 40;
                String what = "join of " + a + " and " + b + ", KIND " + kind;
                c.told(what, c.x.join(2, 0, 1), fits ? a + b : 0, fits ? 0 : 3);
                c.due("kind(2) after " + what, c.x.kind(2), fits ? kind : 6);
                c.told("length(2) after " + what, c.x.length(2), fits ? a + b : 0, fits ? 0 : 5);
            }
        }
    }

    private static void joinKinds() {
        int[] lengths = {0, 1};
        for (int n : lengths) {
            Check c = new Check("promise 18: \"2 (as a MOVE to such a ROW)\"");
            for (int kind = 0; kind <= 5; kind++) {
                c.x.make(kind, kind, n);
            }
            for (int a = 0; a <= 5; a++) {
                for (int b = 0; b <= 5; b++) {
                    boolean fits = a == b || a >= 2 && b >= 2;
                    String what = "join of KINDS " + a + " and " + b + ", lengths " + n;
                    c.told(what, c.x.join(6, a, b), fits ? 2 * n : 0, fits ? 0 : 2);
                    if (fits) {
                        c.due("kind(6) after " + what, c.x.kind(6), a);
                    }
                }
            }
        }
    }

    private static void joinFits() {
        int[][] marks = {{1}, {101}, {201}, {NONE}};
        for (int[] mark : marks) {
            Check c = new Check("promise 18: \"the ITEMS of a, then of b\"");
            c.things(0, 3, 101, mark[0]);
            c.things(3, 3, 150);
            c.things(4, 4, 150);
            c.things(5, 5, 250);
            c.told("join(6, 3, 0)", c.x.join(6, 3, 0), 3, 0);
            c.holdsThings(6, 150, 101, mark[0]);
            boolean ofLeafs = mark[0] == NONE || mark[0] / 100 == 1;
            c.told("join(7, 4, 0)", c.x.join(7, 4, 0), ofLeafs ? 3 : 0, ofLeafs ? 0 : 2);
            c.due("kind(7)", c.x.kind(7), ofLeafs ? 4 : NONE);
            c.told("join(8, 5, 0)", c.x.join(8, 5, 0), 0, 2);
            c.due("kind(8)", c.x.kind(8), NONE);
            c.told("join(9, 0, 5)", c.x.join(9, 0, 5), 3, 0);
            c.due("kind(9)", c.x.kind(9), 3);
            c.holdsThings(9, 101, mark[0], 250);
        }
    }

    private static void joinOverItself() {
        Check c = new Check("promise 18, a PLACE of itself");
        c.numbers(0, 0, 1, -2);
        c.x.share(1, 0);
        c.told("join(0, 0, 0)", c.x.join(0, 0, 0), 4, 0);
        c.holdsNumbers(0, 1, -2, 1, -2);
        c.holdsNumbers(1, 1, -2);
        c.told("join(1, 0, 1)", c.x.join(1, 0, 1), 6, 0);
        c.holdsNumbers(1, 1, -2, 1, -2, 1, -2);
        c.x.make(2, 0, 0);
        c.told("join(3, 2, 1)", c.x.join(3, 2, 1), 6, 0);
        c.due("same(1, 3): a new ROW also with an empty one", c.x.same(1, 3), 0);
        c.due("equal(1, 3)", c.x.equal(1, 3), 1);
        c.told("join(3, 2, 2)", c.x.join(3, 2, 2), 0, 0);
        c.told("length(3)", c.x.length(3), 0, 0);
    }

    private static void updateRange() {
        int[] edges = {MIN, -1, 0, 1, 2, 3, MAX};
        for (int k : edges) {
            for (int ofPlace = 1; ofPlace <= 3; ofPlace++) {
                for (int ofValues = 1; ofValues <= 3; ofValues++) {
                    Check c = new Check("promise 19: \"3 (of values first), what went before stays\"");
                    c.x.make(0, 1, ofPlace);
                    c.numbers(1, 1, 0, k, 0);
                    c.x.make(2, 1, ofValues);
                    for (int t = 0; t < ofValues; t++) {
                        c.x.set(2, t, 50 + t);
                    }
                    boolean there = k >= 0 && k < ofPlace && k < ofValues;
                    c.told("update at " + k, c.x.update(0, 1, 2), there ? 3 : 1, there ? 0 : 3);
                    for (int t = 0; t < ofPlace; t++) {
                        boolean set = t == 0 || there && t == k;
                        c.told("item(0, " + t + ")", c.x.item(0, t), set ? 50 + t : 0, 0);
                    }
                }
            }
        }
    }

    private static void valuesFirst() {
        Check c = new Check("promise 19: \"how many were done\"");
        c.x.make(0, 1, 40);
        c.x.make(2, 1, 40);
        c.x.set(2, 39, 9);
        c.numbers(1, 1, 39, 40);
        c.told("update: 40 is none of both", c.x.update(0, 1, 2), 1, 3);
        c.told("item(0, 39)", c.x.item(0, 39), 9, 0);
        c.x.make(3, 1, 0);
        c.told("update of an empty ROW", c.x.update(3, 1, 2), 0, 3);
        c.told("update from an empty ROW", c.x.update(0, 1, 3), 0, 3);
        c.told("update of an empty ROW by none", c.x.update(3, 3, 3), 0, 0);
        c.x.length(9);
        c.told("update by none from an empty ROW", c.x.update(0, 3, 3), 0, 0);
    }

    private static void updateAsAllAreByThen() {
        Check c = new Check("promise 19: \"as all are by then\"");
        c.numbers(0, 1, 1, 0, 5);
        c.numbers(1, 1, 9, 2, 0);
        c.told("update(0, 0, 1): its own indexes", c.x.update(0, 0, 1), 3, 0);
        c.holdsNumbers(0, 9, 2, 0);
        c.numbers(0, 1, 1, 0, 0);
        c.numbers(1, 1, 9, 3, 7);
        c.told("update(0, 0, 1): an index that is none by then", c.x.update(0, 0, 1), 1, 3);
        c.holdsNumbers(0, 1, 3, 0);
        c.numbers(2, 1, 2, 1, 0);
        c.x.share(3, 2);
        c.x.share(4, 2);
        c.told("update(2, 3, 4): all the same ROW", c.x.update(2, 3, 4), 3, 0);
        c.holdsNumbers(2, 2, 1, 0);
        c.numbers(5, 1, 1, 1, 1);
        c.numbers(6, 1, 7, 8);
        c.x.make(7, 1, 2);
        c.told("update(7, 5, 6): the same ITEM again", c.x.update(7, 5, 6), 3, 0);
        c.holdsNumbers(7, 0, 8);
        c.holdsNumbers(5, 1, 1, 1);
        c.holdsNumbers(6, 7, 8);
    }

    private static void updateSizes() {
        Check c = new Check("promise 19, 40 indexes");
        c.x.make(0, 1, 40);
        c.x.make(1, 1, 40);
        c.x.make(2, 1, 40);
        for (int k = 0; k < 40; k++) {
            c.x.set(1, k, 39 - k);
            c.x.set(2, k, k + 1);
        }
        c.told("update(0, 1, 2)", c.x.update(0, 1, 2), 40, 0);
        c.due("equal(0, 2)", c.x.equal(0, 2), 1);
    }

    private static void rotateNumbers(int length) {
        int[] by = {MIN, MIN + 1, -81, -80, -41, -40, -39, -2, -1, 0, 1, 2, 39, 40, 41, 80, 81, MAX - 1, MAX};
        for (int turn : by) {
            Check c = new Check("promise 20: \"All ITEMS of a ROW go so many on (below 0: back)\"");
            c.x.make(0, 1, length);
            for (int k = 0; k < length; k++) {
                c.x.set(0, k, k + 1);
            }
            String what = "rotate(0, " + turn + ") of length " + length;
            if (length == 0) {
                c.told(what, c.x.rotate(0, turn), 0, 6);
                continue;
            }
            long first = ((long) turn % length + length) % length;
            c.told(what, c.x.rotate(0, turn), (int) first, 0);
            for (int k = 0; k < length; k++) {
                int at = (int) ((k + first) % length);
                c.due("item(0, " + at + ") after " + what, c.x.item(0, at), k + 1);
            }
        }
    }

    private static void rotateKinds() {
        Check c = new Check("promise 20: \"those beyond its end come in at its beginning: where ITEM 0 is then\"");
        c.things(0, 3, 1, 102, NONE);
        c.x.share(1, 0);
        c.told("rotate(0, 1)", c.x.rotate(0, 1), 1, 0);
        c.holdsThings(1, NONE, 1, 102);
        c.told("rotate(1, -2)", c.x.rotate(1, -2), 1, 0);
        c.holdsThings(0, 102, NONE, 1);
        c.numbers(2, 0, -128, 127, 0);
        c.told("rotate(2, -1)", c.x.rotate(2, -1), 2, 0);
        c.holdsNumbers(2, 127, 0, -128);
        c.x.make(3, 1, 2);
        c.x.make(4, 2, 3);
        c.x.hang(4, 2, 3);
        c.told("rotate(4, 1)", c.x.rotate(4, 1), 1, 0);
        c.told("item(4, 0)", c.x.item(4, 0), 2, 0);
        c.told("item(4, 2)", c.x.item(4, 2), 0, 1);
        c.due("held(3)", c.x.held(3), 2);
        for (int kind = 0; kind <= 5; kind++) {
            c.x.make(5, kind, 1);
            c.told("rotate of one ITEM, KIND " + kind, c.x.rotate(5, MIN), 0, 0);
            c.x.make(5, kind, 0);
            c.told("rotate of none, KIND " + kind, c.x.rotate(5, 0), 0, 6);
        }
    }
}
