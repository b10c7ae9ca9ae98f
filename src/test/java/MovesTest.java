/** Promises 14 and 15: move, loop. */
public final class MovesTest {
    private static final int NONE = CopyRows.NONE, MAX = Integer.MAX_VALUE, MIN = Integer.MIN_VALUE;

    public static void main(String[] args) {
        overlaps();
        ahead();
        ranges();
        loopRanges();
        partial();
        tables();
        Check.end();
    }

    private static void overlaps() {
        Check c = new Check("a ROW to itself");
        c.numbers(0, 1, 1, 2, 3, 4, 5);
        c.told("move(0, 0, 0, 1, 4)", c.x.move(0, 0, 0, 1, 4), 4, 0);
        c.holdsNumbers(0, 1, 1, 2, 3, 4);
        c.told("move(0, 2, 0, 0, 3)", c.x.move(0, 2, 0, 0, 3), 3, 0);
        c.holdsNumbers(0, 2, 3, 4, 3, 4);
        c.told("loop(0, 0, 0, 1, 4)", c.x.loop(0, 0, 0, 1, 4), 4, 0);
        c.holdsNumbers(0, 2, 2, 2, 2, 2);
        c.numbers(1, 0, 1, 2, 3, 4, 5);
        c.x.share(2, 1);
        c.told("loop(1, 0, 2, 2, 3)", c.x.loop(1, 0, 2, 2, 3), 3, 0);
        c.holdsNumbers(2, 1, 2, 1, 2, 1);
        c.numbers(3, 1, 1, 2, 3, 4, 5);
        c.told("loop(3, 1, 3, 0, 4): backwards as at once", c.x.loop(3, 1, 3, 0, 4), 4, 0);
        c.holdsNumbers(3, 2, 3, 4, 5, 5);
        c.things(4, 3, 1, 102, 203, NONE);
        c.told("move(4, 0, 4, 1, 3)", c.x.move(4, 0, 4, 1, 3), 3, 0);
        c.holdsThings(4, 1, 1, 102, 203);
        c.told("loop(4, 1, 4, 2, 2)", c.x.loop(4, 1, 4, 2, 2), 2, 0);
        c.holdsThings(4, 1, 1, 1, 1);
    }

    /** What is asked of the two ROWS ahead of all numbers, for both calls. */
    private static void ahead() {
        for (int x = 0; x <= 7; x++) {
            Check c = new Check("ahead of anything");
            for (int kind = 0; kind <= 5; kind++) {
                c.x.make(kind, kind, 2);
            }
            c.x.lump(6);
            for (int y = 0; y <= 7; y++) {
                int due = x == 7 || y == 7 ? 1 : x == 6 || y == 6 ? 2 : (x <= 1 || y <= 1) && x != y ? 2 : 0;
                String which = "(" + x + ", .., " + y + ", ..";
                c.told("move" + which + ", 0)", c.x.move(x, 0, y, 0, 0), 0, due);
                c.told("move" + which + ", -1)", c.x.move(x, 0, y, 0, -1), 0, due == 0 ? 3 : due);
                c.told("move" + which + ", 2)", c.x.move(x, 0, y, 0, 2), due == 0 ? 2 : 0, due);
                c.told("loop" + which + ", 0)", c.x.loop(x, -5, y, 99, 0), 0, due);
                c.told("loop" + which + ", MIN)", c.x.loop(x, -5, y, 99, MIN), 0, due);
                c.told("loop" + which + ", 2)", c.x.loop(x, 0, y, 0, 2), due == 0 ? 2 : 0, due);
                c.told("loop" + which + ", 3)", c.x.loop(x, 0, y, 0, 3), due == 0 ? 2 : 0, due == 0 ? 3 : due);
            }
        }
    }

    private static void ranges() {
        Check c = new Check("promise 14, numbers");
        c.numbers(0, 1, 1, 2, 3);
        c.numbers(1, 1, 7, 8, 9, 10);
        int[][] wrong = {
            {-1, 0, 0}, {0, -1, 0}, {0, 0, -1}, {-1, 0, 1}, {0, -1, 1}, {4, 0, 0}, {0, 5, 0}, {3, 0, 1}, {0, 4, 1},
            {0, 0, 4}, {1, 0, 3}, {0, 2, 3}, {MAX, 0, 1}, {0, MAX, 1}, {0, 0, MAX}, {MAX, MAX, MAX}, {1, 0, MAX},
            {0, 1, MAX}, {MIN, 0, 0}, {0, MIN, 0}, {0, 0, MIN}, {MIN, MIN, MIN}, {MAX, 0, 0}, {3, 4, 1}};
        for (int[] w : wrong) {
            String call = "move(0, " + w[0] + ", 1, " + w[1] + ", " + w[2] + ")";
            c.told(call, c.x.move(0, w[0], 1, w[1], w[2]), 0, 3);
        }
        c.holdsNumbers(0, 1, 2, 3);
        c.holdsNumbers(1, 7, 8, 9, 10);
        c.told("move(0, 3, 1, 4, 0)", c.x.move(0, 3, 1, 4, 0), 0, 0);
        c.told("move(0, 0, 1, 1, 3)", c.x.move(0, 0, 1, 1, 3), 3, 0);
        c.holdsNumbers(1, 7, 1, 2, 3);
        c.told("move(0, 2, 1, 0, 1)", c.x.move(0, 2, 1, 0, 1), 1, 0);
        c.holdsNumbers(1, 3, 1, 2, 3);
        c.numbers(2, 0, -1, -2);
        c.numbers(3, 0, 0, 0);
        c.told("move(2, 0, 3, 0, 2)", c.x.move(2, 0, 3, 0, 2), 2, 0);
        c.holdsNumbers(3, -1, -2);
    }

    private static void loopRanges() {
        Check c = new Check("promise 15, numbers");
        c.numbers(0, 1, 1, 2, 3);
        c.numbers(1, 1, 7, 8, 9, 10);
        int[][] none = {
            {-1, 0, 1}, {0, -1, 1}, {3, 0, 1}, {0, 4, 1}, {MAX, 0, MAX}, {0, MAX, MAX}, {MIN, 0, MAX}, {0, MIN, 5}};
        for (int[] w : none) {
            String call = "loop(0, " + w[0] + ", 1, " + w[1] + ", " + w[2] + ")";
            c.told(call, c.x.loop(0, w[0], 1, w[1], w[2]), 0, 3);
        }
        c.holdsNumbers(1, 7, 8, 9, 10);
        c.told("loop(0, 0, 1, 0, -1)", c.x.loop(0, 0, 1, 0, -1), 0, 0);
        c.told("loop(0, 1, 1, 0, MAX): x ends", c.x.loop(0, 1, 1, 0, MAX), 2, 3);
        c.holdsNumbers(1, 2, 3, 9, 10);
        c.told("loop(0, 0, 1, 3, 3): y ends", c.x.loop(0, 0, 1, 3, 3), 1, 3);
        c.holdsNumbers(1, 2, 3, 9, 1);
        c.told("loop(0, 0, 1, 1, 3)", c.x.loop(0, 0, 1, 1, 3), 3, 0);
        c.holdsNumbers(1, 2, 1, 2, 3);
        c.told("loop(0, 0, 1, 1, 4)", c.x.loop(0, 0, 1, 1, 4), 3, 3);
    }

    private static void partial() {
        for (int one = 0; one <= 1; one++) {
            Check c = new Check(one == 1 ? "promise 15, what fits" : "promise 14, what fits");
            c.things(0, 3, 101, NONE, 102, 203, 104);
            c.things(1, 4, 151, 152, 153, 154, 155);
            c.told("THINGS to LEAVES", go(c, one, 0, 0, 1, 0, 5), 3, 2);
            c.holdsThings(1, 101, NONE, 102, 154, 155);
            c.told("THINGS to LEAVES, all fit", go(c, one, 0, 4, 1, 4, 1), 1, 0);
            c.holdsThings(1, 101, NONE, 102, 154, 104);
            c.things(2, 5, NONE, NONE);
            c.told("THINGS to NODES", go(c, one, 0, 3, 2, 0, 2), 1, 2);
            c.holdsThings(2, 203, NONE);
            c.told("LEAVES to NODES", go(c, one, 1, 0, 2, 0, 1), 0, 2);
            c.told("nothing of LEAVES to NODES", go(c, one, 1, 1, 2, 0, 1), 1, 0);
            c.holdsThings(2, NONE, NONE);
            c.things(3, 3, 1, 2, 3, 4, 5);
            c.told("LEAVES to THINGS", go(c, one, 1, 0, 3, 0, 4), 4, 0);
            c.holdsThings(3, 101, NONE, 102, 154, 5);
            c.told("plain to LEAVES", go(c, one, 3, 4, 1, 0, 1), 0, 2);
            c.told("plain to NODES", go(c, one, 3, 4, 2, 0, 1), 0, 2);
            c.told("plain to THINGS", go(c, one, 3, 4, 0, 0, 1), 1, 0);
            c.holdsThings(0, 5, NONE, 102, 203, 104);
            c.told("a number that is no ITEM's ahead of what fits", go(c, one, 3, 4, 1, 5, 1), 0, 3);
        }
        Check c = new Check("3 and 2");
        c.things(0, 3, 101, 1);
        c.x.make(1, 4, 2);
        c.told("move: 3 of all of it", c.x.move(0, 0, 1, 0, 3), 0, 3);
        c.holdsThings(1, NONE, NONE);
        c.told("loop: 2 comes first", c.x.loop(0, 0, 1, 0, 3), 1, 2);
        c.holdsThings(1, 101, NONE);
        c.x.copy(2, 1);
        c.told("move of THINGS", c.x.move(0, 0, 2, 1, 1), 1, 0);
        c.told("loop of THINGS", c.x.loop(2, 0, 2, 1, 1), 1, 0);
        c.x.move(0, 0, 1, 1, 1);
        c.due("equal(1, 2): ITEMS themselves went", c.x.equal(1, 2), 1);
    }

    private static void tables() {
        for (int one = 0; one <= 1; one++) {
            Check c = new Check(one == 1 ? "promise 15, TABLES" : "promise 14, TABLES");
            c.numbers(0, 1, 4, 5, 6);
            c.x.make(1, 2, 3);
            c.x.hang(1, 1, 0);
            c.x.make(2, 2, 3);
            c.told("TABLES to TABLES", go(c, one, 1, 0, 2, 1, 2), 2, 0);
            c.told("item(2, 2)", c.x.item(2, 2), 3, 0);
            c.due("held(0)", c.x.held(0), 3);
            for (int kind = 3; kind <= 5; kind++) {
                c.things(3, kind, kind == 5 ? 207 : 107 - (kind == 3 ? 100 : 0), NONE, NONE);
                c.told("a ROW to others", go(c, one, 1, 1, 3, 1, 2), 0, 2);
                c.told("nothing, then a ROW to others", go(c, one, 1, 0, 3, 0, 3), 1, 2);
                c.holdsThings(3, NONE, NONE, NONE);
                c.things(3, kind, NONE, kind == 5 ? 207 : 107 - (kind == 3 ? 100 : 0), NONE);
                c.told("nothing, then a THING to TABLES", go(c, one, 3, 0, 2, 2, 1), 1, 0);
                c.told("item(2, 2)", c.x.item(2, 2), 0, 1);
                c.told("a THING to TABLES", go(c, one, 3, 1, 2, 0, 1), 0, 2);
                c.told("a THING to TABLES, later", go(c, one, 3, 0, 2, 0, 2), 1, 2);
            }
        }
    }

    private static int go(Check c, int one, int x, int i, int y, int j, int n) {
        return one == 1 ? c.x.loop(x, i, y, j, n) : c.x.move(x, i, y, j, n);
    }
}
