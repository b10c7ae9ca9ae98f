/** Promises 21 to 26: each sentence that names an edge has a test here. What is refused stands in RefusedTest. */
public final class EdgesOfSumsTest {
    private static final int MAX = Integer.MAX_VALUE, MIN = Integer.MIN_VALUE;

    public static void main(String[] args) {
        sumWraps();
        sumOfFullRows();
        sumOfTables();
        sumOfTablesWithNothing();
        meanCutTowardsZero();
        meanOfTheWrappedSum();
        meanOfNone();
        sameOfNothing();
        sameOfEach();
        equalKindsAndLengths();
        equalItems();
        equalOfNothingAndLumps();
        compareByTheFirstOther();
        compareByLengths();
        compareOfItself();
        heldOfNothing();
        heldInAllPlaces();
        heldInTables();
        heldInSharedTables();
        heldInTablesOfNoPlace();
        Check.end();
    }

    private static void row(Check c, int place, int kind, int n, int value) {
        c.x.make(place, kind, n);
        for (int k = 0; k < n; k++) {
            c.x.set(place, k, value);
        }
    }

    private static void sumWraps() {
        Check c = new Check("promise 21: \"(32 bits, wrapping)\"");
        c.numbers(0, 1, MAX, 1);
        c.told("MAX + 1", c.x.sum(0), MIN, 0);
        c.numbers(0, 1, MIN, -1);
        c.told("MIN - 1", c.x.sum(0), MAX, 0);
        c.numbers(0, 1, MIN, MIN);
        c.told("MIN + MIN", c.x.sum(0), 0, 0);
        c.numbers(0, 1, MAX, 1, MIN);
        c.told("there and back", c.x.sum(0), 0, 0);
        c.numbers(0, 1, MAX);
        c.told("MAX", c.x.sum(0), MAX, 0);
    }

    private static void sumOfFullRows() {
        Check c = new Check("promise 21: \"The sum of all numbers of BYTES, INTS\"");
        row(c, 0, 1, 40, MAX);
        c.told("40 of MAX", c.x.sum(0), -40, 0);
        row(c, 0, 1, 40, MIN);
        c.told("40 of MIN", c.x.sum(0), 0, 0);
        row(c, 0, 0, 40, -128);
        c.told("40 of -128, beyond a byte", c.x.sum(0), -5120, 0);
        row(c, 0, 0, 40, 127);
        c.told("40 of 127, beyond a byte", c.x.sum(0), 5080, 0);
        for (int kind = 0; kind <= 2; kind++) {
            c.x.make(1, kind, 0);
            c.x.length(9);
            c.told("none, KIND " + kind, c.x.sum(1), 0, 0);
        }
    }

    private static void sumOfTables() {
        Check c = new Check("promise 21: \"of all ROWS of TABLES\"");
        c.numbers(0, 1, MAX, 2);
        c.x.make(1, 1, 0);
        c.x.make(2, 2, 3);
        c.x.hang(2, 0, 1);
        c.x.hang(2, 1, 0);
        c.x.hang(2, 2, 1);
        c.told("two empty ROWS and one", c.x.sum(2), MIN + 1, 0);
        c.x.hang(2, 2, 0);
        c.told("a ROW twice", c.x.sum(2), 2, 0);
        c.x.make(3, 2, 40);
        c.x.make(4, 1, 40);
        c.x.set(4, 39, 3);
        for (int k = 0; k < 40; k++) {
            c.x.hang(3, k, 4);
        }
        c.told("40 ROWS of 40", c.x.sum(3), 120, 0);
    }

    private static void sumOfTablesWithNothing() {
        for (int empty = 0; empty <= 2; empty++) {
            Check c = new Check("promise 21: \"CODE 1 (also where nothing is in TABLES)\"");
            c.numbers(0, 1, 5);
            c.x.make(1, 2, 3);
            for (int k = 0; k <= 2; k++) {
                c.x.hang(1, k, k == empty ? 9 : 0);
            }
            c.told("nothing at " + empty, c.x.sum(1), 0, 1);
            c.x.hang(1, empty, 0);
            c.told("a ROW there", c.x.sum(1), 15, 0);
        }
        Check c = new Check("promise 21, TABLES of nothing alone");
        c.x.make(0, 2, 1);
        c.told("sum(0)", c.x.sum(0), 0, 1);
    }

    private static void meanCutTowardsZero() {
        Check c = new Check("promise 22: \"/ the length, cut towards 0\"");
        int[][] rows = {
            {1, 0, 0}, {1, 1, 0}, {1, 1, 1}, {-1, 0, 0}, {-1, -1, 0}, {-1, -1, -1}, {-1, -1, -2}, {2, 1, 1}};
        int[] due = {0, 0, 1, 0, 0, -1, -1, 1};
        for (int t = 0; t < rows.length; t++) {
            for (int kind = 0; kind <= 1; kind++) {
                c.numbers(0, kind, rows[t]);
                c.told("mean of " + java.util.Arrays.toString(rows[t]), c.x.mean(0), due[t], 0);
            }
        }
    }

    private static void meanOfTheWrappedSum() {
        Check c = new Check("promise 22: \"That sum of BYTES or INTS\"");
        c.numbers(0, 1, MAX, MAX);
        c.told("of MAX twice", c.x.mean(0), -1, 0);
        c.numbers(0, 1, MIN, MIN);
        c.told("of MIN twice", c.x.mean(0), 0, 0);
        c.numbers(0, 1, MAX, 1);
        c.told("of MAX and 1", c.x.mean(0), MIN / 2, 0);
        c.numbers(0, 1, MIN);
        c.told("of MIN", c.x.mean(0), MIN, 0);
        c.numbers(0, 1, MAX);
        c.told("of MAX", c.x.mean(0), MAX, 0);
        row(c, 0, 0, 40, -128);
        c.told("of 40 BYTES", c.x.mean(0), -128, 0);
    }

    private static void meanOfNone() {
        Check c = new Check("promise 22: \"0 with CODE 1, 5 (also TABLES), 6\"");
        c.told("of NOTHING", c.x.mean(0), 0, 1);
        for (int kind = 0; kind <= 5; kind++) {
            c.x.make(0, kind, 0);
            c.told("of an empty ROW, KIND " + kind, c.x.mean(0), 0, kind <= 1 ? 6 : 5);
            c.x.make(0, kind, 1);
            c.told("of KIND " + kind, c.x.mean(0), 0, kind <= 1 ? 0 : 5);
        }
        c.numbers(1, 1, 6);
        c.x.make(0, 2, 1);
        c.x.hang(0, 0, 1);
        c.told("of TABLES whose sum there is", c.x.mean(0), 0, 5);
        c.told("that sum", c.x.sum(0), 6, 0);
    }

    private static void sameOfNothing() {
        Check c = new Check("promise 23: \"(both NOTHING, too)\"");
        c.due("same(0, 11)", c.x.same(0, 11), 1);
        c.due("same(0, 0)", c.x.same(0, 0), 1);
        c.x.make(0, 1, 0);
        c.due("same(0, 11)", c.x.same(0, 11), 0);
        c.due("same(11, 0)", c.x.same(11, 0), 0);
        c.x.lump(0);
        c.due("same(0, 11): a LUMP", c.x.same(0, 11), 0);
        c.x.nothing(0);
        c.due("same(0, 11)", c.x.same(0, 11), 1);
    }

    private static void sameOfEach() {
        Check c = new Check("promise 23: \"Whether two PLACES hold the same\"");
        for (int kind = 0; kind <= 5; kind++) {
            c.x.make(0, kind, 0);
            c.x.make(1, kind, 0);
            c.due("two empty ROWS of KIND " + kind, c.x.same(0, 1), 0);
            c.x.copy(1, 0);
            c.due("a ROW and its copy", c.x.same(0, 1), 0);
            c.x.share(1, 0);
            c.due("one ROW", c.x.same(0, 1), 1);
        }
        c.x.lump(0);
        c.x.lump(1);
        c.due("two LUMPS", c.x.same(0, 1), 0);
        c.x.share(0, 1);
        c.due("one LUMP", c.x.same(0, 1), 1);
    }

    private static void equal(Check c, String what, int due) {
        c.due(what, c.x.equal(0, 1), due);
        c.due(what + ", the other way", c.x.equal(1, 0), due);
    }

    private static void equalKindsAndLengths() {
        for (int a = 0; a <= 5; a++) {
            Check c = new Check("promise 24: \"the same KIND, length\"");
            for (int b = 0; b <= 5; b++) {
                c.x.make(0, a, 0);
                c.x.make(1, b, 0);
                equal(c, "empty, KINDS " + a + " and " + b, a == b ? 1 : 0);
                c.x.make(0, a, 40);
                c.x.make(1, b, 40);
                equal(c, "full, KINDS " + a + " and " + b, a == b ? 1 : 0);
                c.x.make(1, b, 39);
                equal(c, "40 and 39, KINDS " + a + " and " + b, 0);
                c.x.make(1, b, 0);
                equal(c, "40 and none, KINDS " + a + " and " + b, 0);
            }
        }
    }

    private static void equalItems() {
        int[] at = {0, 39};
        for (int k : at) {
            Check c = new Check("promise 24: \"and ITEMS (the same ROWS, THINGS)\"");
            for (int kind = 0; kind <= 1; kind++) {
                c.x.make(0, kind, 40);
                c.x.make(1, kind, 40);
                c.x.set(0, k, 1);
                equal(c, "another number at " + k, 0);
                c.x.set(1, k, 1);
                equal(c, "the same number at " + k, 1);
            }
            for (int kind = 3; kind <= 5; kind++) {
                c.x.make(0, kind, 40);
                c.x.make(1, kind, 40);
                c.x.thing(0, k, kind - 3, 7);
                equal(c, "a THING and nothing at " + k, 0);
                c.x.thing(1, k, kind - 3, 7);
                equal(c, "two THINGS alike at " + k, 0);
                c.x.move(0, k, 1, k, 1);
                equal(c, "the same THING at " + k, 1);
            }
            c.x.make(2, 1, 1);
            c.x.make(3, 1, 1);
            c.x.make(0, 2, 40);
            c.x.make(1, 2, 40);
            c.x.hang(0, k, 2);
            c.x.hang(1, k, 3);
            equal(c, "two ROWS alike at " + k, 0);
            c.x.hang(1, k, 2);
            equal(c, "the same ROW at " + k, 1);
        }
    }

    private static void equalOfNothingAndLumps() {
        Check c = new Check("promise 24: \"NOTHING and a LUMP are equal to what is the same.\"");
        equal(c, "NOTHING and NOTHING", 1);
        c.x.lump(0);
        equal(c, "a LUMP and NOTHING", 0);
        c.due("a LUMP and itself", c.x.equal(0, 0), 1);
        c.x.lump(1);
        equal(c, "two LUMPS", 0);
        c.x.share(1, 0);
        equal(c, "one LUMP in two PLACES", 1);
        for (int kind = 0; kind <= 5; kind++) {
            c.x.lump(0);
            c.x.make(1, kind, 0);
            equal(c, "a LUMP and an empty ROW of KIND " + kind, 0);
            c.x.nothing(0);
            equal(c, "NOTHING and an empty ROW of KIND " + kind, 0);
        }
    }

    private static void compare(Check c, int kind, int[] a, int[] b, int due) {
        c.numbers(0, kind, a);
        c.numbers(1, kind, b);
        c.x.length(9);
        c.told("a with b", c.x.compare(0, 1), due, 0);
        c.x.length(9);
        c.told("b with a", c.x.compare(1, 0), -due, 0);
    }

    private static void compareByTheFirstOther() {
        Check c = new Check("promise 25: \"by the first ITEM that is another one\"");
        for (int kind = 0; kind <= 1; kind++) {
            compare(c, kind, new int[] {1}, new int[] {2}, -1);
            compare(c, kind, new int[] {-1}, new int[] {0}, -1);
            compare(c, kind, new int[] {-128}, new int[] {127}, -1);
            compare(c, kind, new int[] {1, 9, 9}, new int[] {2, 0, 0}, -1);
            compare(c, kind, new int[] {1, 1, 9}, new int[] {1, 2, 0}, -1);
            compare(c, kind, new int[] {1, 1, 1}, new int[] {1, 1, 2}, -1);
            compare(c, kind, new int[] {1, 9, 9}, new int[] {2}, -1);
        }
        compare(c, 1, new int[] {MIN}, new int[] {MAX}, -1);
        compare(c, 1, new int[] {MIN}, new int[] {1}, -1);
        compare(c, 1, new int[] {-2}, new int[] {MAX}, -1);
    }

    private static void compareByLengths() {
        Check c = new Check("promise 25: \"else by lengths\"");
        for (int kind = 0; kind <= 1; kind++) {
            compare(c, kind, new int[0], new int[0], 0);
            compare(c, kind, new int[0], new int[] {-5}, -1);
            compare(c, kind, new int[] {3}, new int[] {3, -5}, -1);
            compare(c, kind, new int[] {3, -5}, new int[] {3, -5}, 0);
            c.x.make(0, kind, 39);
            c.x.make(1, kind, 40);
            c.told("39 with 40", c.x.compare(0, 1), -1, 0);
            c.x.make(0, kind, 40);
            c.told("40 with 40", c.x.compare(0, 1), 0, 0);
            c.x.set(0, 39, 1);
            c.told("40 with 40, by the last", c.x.compare(0, 1), 1, 0);
        }
    }

    private static void compareOfItself() {
        Check c = new Check("promise 25: \"Two ROWS, both BYTES or both INTS\"");
        for (int kind = 0; kind <= 5; kind++) {
            c.x.make(0, kind, 1);
            c.told("a ROW of KIND " + kind + " with itself", c.x.compare(0, 0), 0, kind <= 1 ? 0 : 5);
        }
        c.told("NOTHING with itself", c.x.compare(9, 9), 0, 1);
        c.x.lump(9);
        c.told("a LUMP with itself", c.x.compare(9, 9), 0, 5);
        c.x.make(0, 0, 0);
        c.x.make(1, 1, 0);
        c.told("empty BYTES with empty INTS", c.x.compare(0, 1), 0, 5);
    }

    private static void heldOfNothing() {
        Check c = new Check("promise 26: \"0: NOTHING\"");
        c.due("held(11)", c.x.held(11), 0);
        c.x.make(0, 2, 3);
        c.due("held(11): nothing in TABLES does not count", c.x.held(11), 0);
    }

    private static void heldInAllPlaces() {
        Check c = new Check("promise 26: \"In how many PLACES what a PLACE holds is (with itself)\"");
        for (int kind = 0; kind <= 6; kind++) {
            if (kind == 6) {
                c.x.lump(0);
            } else {
                c.x.make(0, kind, 1);
            }
            c.due("held(0), KIND " + kind, c.x.held(0), 1);
            for (int p = 1; p <= 11; p++) {
                c.x.share(p, 0);
                c.due("held(0), KIND " + kind, c.x.held(0), p + 1);
            }
            c.due("held(11), KIND " + kind, c.x.held(11), 12);
            for (int p = 1; p <= 11; p++) {
                c.x.nothing(p);
            }
        }
    }

    private static void heldInTables() {
        Check c = new Check("promise 26: \"and in TABLES of PLACES (each ITEM\"");
        c.x.make(0, 1, 1);
        c.x.make(1, 2, 40);
        for (int k = 0; k < 40; k++) {
            c.x.hang(1, k, 0);
            c.due("held(0)", c.x.held(0), k + 2);
        }
        c.x.make(2, 1, 1);
        c.due("held(2): its like hangs there", c.x.held(2), 1);
        c.due("held(1)", c.x.held(1), 1);
        c.x.copy(3, 1);
        c.due("held(0): in two TABLES", c.x.held(0), 81);
        c.x.share(4, 0);
        c.due("held(4)", c.x.held(4), 82);
        c.x.hang(1, 39, 9);
        c.due("held(0)", c.x.held(0), 81);
    }

    private static void heldInSharedTables() {
        Check c = new Check("promise 26: \"a ROW that several PLACES hold once)\"");
        c.x.make(11, 1, 1);
        c.x.make(0, 2, 2);
        c.x.hang(0, 0, 11);
        c.x.hang(0, 1, 11);
        for (int p = 1; p <= 10; p++) {
            c.x.share(p, 0);
            c.due("held(11): TABLES in " + (p + 1) + " PLACES", c.x.held(11), 3);
        }
        c.due("held(0)", c.x.held(0), 11);
        c.x.nothing(0);
        c.due("held(11): the first of those PLACES is empty", c.x.held(11), 3);
    }

    private static void heldInTablesOfNoPlace() {
        Check c = new Check("promise 26: \"TABLES of PLACES\"");
        c.x.make(0, 1, 1);
        c.x.make(1, 2, 1);
        c.x.hang(1, 0, 0);
        c.due("held(0)", c.x.held(0), 2);
        c.x.nothing(1);
        c.due("held(0): no PLACE holds those TABLES", c.x.held(0), 1);
    }
}
