/**
 * Promises 14 and 15 with the sentences of "Terms" on MOVES: each that names an edge has a test here. All numbers
 * round the edges are gone through, and what is due is counted out anew with numbers that do not wrap.
 */
public final class EdgesOfMovesTest {
    private static final int NONE = CopyRows.NONE, MAX = Integer.MAX_VALUE, MIN = Integer.MIN_VALUE;
    private static final int[] ROUND_THE_EDGES = {MIN, MIN + 1, -1, 0, 1, 2, 3, 4, MAX - 1, MAX};
    private static final int AT_ONCE = 0, ONE_BY_ONE = 1;

    public static void main(String[] args) {
        for (int way = AT_ONCE; way <= ONE_BY_ONE; way++) {
            for (int kind = 0; kind <= 5; kind++) {
                twoRows(way, kind);
                oneRow(way, kind);
            }
            fullRows(way);
            emptyRows(way);
            firstThatDoesNotFit(way);
            allFitButBeyondTheMove(way);
            nothingFits(way);
            rowsFitIntoTablesAlone(way);
            itemsThemselvesGo(way);
        }
        thirdRow();
        asAllAreByThen();
        nothingElseIsAsked();
        whichStopsFirst();
        Check.end();
    }

    private static int go(Check c, int way, int x, int i, int y, int j, int n) {
        return way == AT_ONCE ? c.x.move(x, i, y, j, n) : c.x.loop(x, i, y, j, n);
    }

    private static String call(int way, int i, int j, int n, int kind) {
        return (way == AT_ONCE ? "move" : "loop") + " of KIND " + kind + " from " + i + " to " + j + " of " + n;
    }

    /** PLACES 8 to 11 hold INTS ROWS of lengths 1 to 4: TABLES are told apart by those. */
    private static Check ready(String about) {
        Check c = new Check(about);
        for (int p = 8; p <= 11; p++) {
            c.x.make(p, 1, p - 7);
        }
        return c;
    }

    private static void fill(Check c, int place, int kind, int[] marks) {
        c.x.make(place, kind, marks.length);
        for (int k = 0; k < marks.length; k++) {
            if (kind <= 1) {
                c.x.set(place, k, marks[k]);
            } else if (kind == 2) {
                c.x.hang(place, k, marks[k] + 7);
            } else {
                c.x.thing(place, k, kind - 3, marks[k]);
            }
        }
    }

    private static void holds(Check c, String after, int place, int[] marks) {
        for (int k = 0; k < marks.length; k++) {
            c.due("item(" + place + ", " + k + ") after " + after, c.x.item(place, k), marks[k]);
        }
        c.due("length(" + place + ")", c.x.length(place), marks.length);
    }

    /** How many go; a MOVE that is refused as a whole is one of none. */
    private static int goes(int way, long i, long j, long n, long ofX, long ofY) {
        boolean begins = i >= 0 && j >= 0 && n >= 0;
        if (way == AT_ONCE) {
            return begins && i + n <= ofX && j + n <= ofY ? (int) n : 0;
        }
        long room = begins ? Math.max(0, Math.min(ofX - i, ofY - j)) : 0;
        return (int) Math.min(room, n);
    }

    private static boolean stops(int way, long i, long j, long n, long ofX, long ofY) {
        if (way == ONE_BY_ONE && n <= 0) {
            return false;
        }
        return i < 0 || j < 0 || n < 0 || i + n > ofX || j + n > ofY;
    }

    private static void twoRows(int way, int kind) {
        String about = "\"i, j or n is below 0; i and n are together above x's length, or j and n above y's\"";
        for (int ofX = 0; ofX <= 2; ofX++) {
            for (int ofY = 0; ofY <= 2; ofY++) {
                for (int i : ROUND_THE_EDGES) {
                    for (int j : ROUND_THE_EDGES) {
                        Check c = ready(about);
                        for (int n : ROUND_THE_EDGES) {
                            twoRows(c, way, kind, i, j, n, ofX, ofY);
                        }
                    }
                }
            }
        }
    }

    private static void twoRows(Check c, int way, int kind, int i, int j, int n, int ofX, int ofY) {
        int[] from = java.util.Arrays.copyOf(new int[] {1, 2}, ofX);
        int[] to = java.util.Arrays.copyOf(new int[] {3, 4}, ofY);
        fill(c, 0, kind, from);
        fill(c, 1, kind, to);
        int count = Math.max(0, goes(way, i, j, n, ofX, ofY));
        String what = call(way, i, j, n, kind) + ", lengths " + ofX + " and " + ofY;
        c.told(what, go(c, way, 0, i, 1, j, n), count, stops(way, i, j, n, ofX, ofY) ? 3 : 0);
        for (int t = 0; t < count; t++) {
            to[j + t] = from[i + t];
        }
        holds(c, what, 0, from);
        holds(c, what, 1, to);
    }

    private static void oneRow(int way, int kind) {
        String about = way == AT_ONCE ? "\"as if all went through a third ROW\"" : "\"each as all are by then\"";
        for (int i = 0; i <= 4; i++) {
            for (int j = 0; j <= 4; j++) {
                Check c = ready(about);
                for (int n = 0; n <= 5; n++) {
                    oneRow(c, way, kind, i, j, n);
                }
            }
        }
    }

    private static void oneRow(Check c, int way, int kind, int i, int j, int n) {
        int[] marks = {1, 2, 3, 4};
        fill(c, 0, kind, marks);
        c.x.share(1, 0);
        int count = goes(way, i, j, n, 4, 4);
        String what = call(way, i, j, n, kind) + ", to itself";
        c.told(what, go(c, way, 0, i, 1, j, n), count, stops(way, i, j, n, 4, 4) ? 3 : 0);
        int[] from = way == AT_ONCE ? marks.clone() : marks;
        for (int t = 0; t < count; t++) {
            marks[j + t] = from[i + t];
        }
        holds(c, what, 1, marks);
    }

    private static void fullRows(int way) {
        for (int kind = 0; kind <= 5; kind++) {
            Check c = ready("ROWS of 40 ITEMS, KIND " + kind);
            c.x.make(0, kind, 40);
            c.x.make(1, kind, 40);
            c.told("all of them", go(c, way, 0, 0, 1, 0, 40), 40, 0);
            c.told("the last one", go(c, way, 0, 39, 1, 39, 1), 1, 0);
            c.told("none behind the last one", go(c, way, 0, 40, 1, 40, 0), 0, 0);
            c.told("one behind the last one", go(c, way, 0, 40, 1, 40, 1), 0, 3);
            c.told("one too many", go(c, way, 0, 0, 1, 0, 41), way == AT_ONCE ? 0 : 40, 3);
            c.told("one too many for x", go(c, way, 0, 1, 1, 0, 40), way == AT_ONCE ? 0 : 39, 3);
            c.told("one too many for y", go(c, way, 0, 0, 1, 1, 40), way == AT_ONCE ? 0 : 39, 3);
        }
    }

    private static void emptyRows(int way) {
        for (int kind = 0; kind <= 5; kind++) {
            Check c = ready("ROWS without ITEMS, KIND " + kind);
            c.x.make(0, kind, 0);
            c.x.make(1, kind, 1);
            c.told("none of none", go(c, way, 0, 0, 0, 0, 0), 0, 0);
            c.told("one of none", go(c, way, 0, 0, 1, 0, 1), 0, 3);
            c.told("one to none", go(c, way, 1, 0, 0, 0, 1), 0, 3);
            c.told("none to none", go(c, way, 1, 1, 0, 0, 0), 0, 0);
        }
    }

    /** THINGS with one ITEM that does not fit, at each place of the MOVE, to all that hold one CLASS alone. */
    private static void firstThatDoesNotFit(int way) {
        for (int cls = 1; cls <= 2; cls++) {
            for (int at = 0; at <= 3; at++) {
                for (int wrong = 0; wrong <= 2; wrong++) {
                    if (wrong != cls) {
                        firstThatDoesNotFit(way, cls, at, wrong);
                    }
                }
            }
        }
    }

    private static void firstThatDoesNotFit(int way, int cls, int at, int wrong) {
        Check c = ready("\"the first ITEM that does not fit into y\", \"2, those before it are moved\"");
        int[] from = new int[5];
        int[] to = new int[5];
        for (int k = 0; k < 5; k++) {
            from[k] = (k == at + 1 || k == 4 ? wrong : cls) * 100 + k;
            to[k] = cls * 100 + 50 + k;
        }
        c.things(0, 3, from);
        c.things(1, 3 + cls, to);
        c.told("4 ITEMS, the wrong one at " + at, go(c, way, 0, 1, 1, 0, 4), at, 2);
        System.arraycopy(from, 1, to, 0, at);
        c.holdsThings(0, from);
        c.holdsThings(1, to);
    }

    private static void allFitButBeyondTheMove(int way) {
        Check c = ready("what does not fit, but is not of the MOVE");
        c.things(0, 3, 1, 102, 103, 204);
        c.x.make(1, 4, 2);
        c.told("the two between", go(c, way, 0, 1, 1, 0, 2), 2, 0);
        c.holdsThings(1, 102, 103);
        c.told("none, at one that does not fit", go(c, way, 0, 0, 1, 0, 0), 0, 0);
    }

    private static void nothingFits(int way) {
        for (int a = 2; a <= 5; a++) {
            for (int b = 2; b <= 5; b++) {
                Check c = ready("\"nothing fits into TABLES, THINGS, LEAVES, NODES\"");
                c.x.make(0, a, 2);
                fill(c, 1, b, new int[] {3, 4});
                c.told("nothing of KIND " + a + " to KIND " + b, go(c, way, 0, 0, 1, 0, 2), 2, 0);
                c.told("item(1, 0)", c.x.item(1, 0), 0, 1);
                c.told("item(1, 1)", c.x.item(1, 1), 0, 1);
            }
        }
    }

    private static void rowsFitIntoTablesAlone(int way) {
        for (int kind = 2; kind <= 5; kind++) {
            Check c = ready("\"an INTS ROW into TABLES alone\"");
            c.x.make(0, 2, 3);
            c.x.hang(0, 1, 9);
            fill(c, 1, kind, new int[] {3, 4, 3});
            c.told("a ROW to KIND " + kind, go(c, way, 0, 0, 1, 0, 3), kind == 2 ? 3 : 1, kind == 2 ? 0 : 2);
            c.told("item(1, 0)", c.x.item(1, 0), 0, 1);
            c.told("item(1, 1)", c.x.item(1, 1), kind == 2 ? 2 : 4, 0);
            c.told("item(1, 2)", c.x.item(1, 2), kind == 2 ? 0 : 3, kind == 2 ? 1 : 0);
            c.x.make(2, 2, 3);
            fill(c, 1, kind, new int[] {3, 4, 3});
            c.told("KIND " + kind + " to TABLES", go(c, way, 1, 0, 2, 0, 3), kind == 2 ? 3 : 0, kind == 2 ? 0 : 2);
        }
    }

    private static void itemsThemselvesGo(int way) {
        Check c = ready("what is moved is the same THING or ROW");
        c.things(0, 3, 107);
        c.x.make(1, 4, 1);
        c.x.make(2, 3, 1);
        go(c, way, 0, 0, 1, 0, 1);
        go(c, way, 1, 0, 2, 0, 1);
        c.due("equal(0, 2): by way of LEAVES", c.x.equal(0, 2), 1);
        c.x.make(3, 2, 2);
        c.x.hang(3, 0, 9);
        go(c, way, 3, 0, 3, 1, 1);
        c.due("held(9)", c.x.held(9), 3);
        c.x.set(9, 1, 5);
        c.told("sum(3)", c.x.sum(3), 10, 0);
    }

    private static void thirdRow() {
        Check c = new Check("\"At once: as if all went through a third ROW\"");
        c.numbers(0, 0, 1, 2, 3, 4);
        c.told("move one on", c.x.move(0, 0, 0, 1, 3), 3, 0);
        c.holdsNumbers(0, 1, 1, 2, 3);
        c.told("move one back", c.x.move(0, 1, 0, 0, 3), 3, 0);
        c.holdsNumbers(0, 1, 2, 3, 3);
        c.told("move to where it is", c.x.move(0, 0, 0, 0, 4), 4, 0);
        c.holdsNumbers(0, 1, 2, 3, 3);
    }

    private static void asAllAreByThen() {
        Check c = new Check("\"ITEM i + 0 to j + 0, i + 1 to j + 1, .., each as all are by then\"");
        c.numbers(0, 0, 1, 2, 3, 4);
        c.told("loop one on", c.x.loop(0, 0, 0, 1, 3), 3, 0);
        c.holdsNumbers(0, 1, 1, 1, 1);
        c.numbers(0, 1, 1, 2, 3, 4, 5);
        c.told("loop two on, beyond the end", c.x.loop(0, 0, 0, 2, 5), 3, 3);
        c.holdsNumbers(0, 1, 2, 1, 2, 1);
        c.told("loop one back, beyond the end", c.x.loop(0, 1, 0, 0, 5), 4, 3);
        c.holdsNumbers(0, 2, 1, 2, 1, 1);
    }

    private static void nothingElseIsAsked() {
        int[] few = {0, -1, MIN};
        for (int n : few) {
            Check c = new Check("\"also for n 0 or below: then nothing else is asked\"");
            c.things(0, 3, 1);
            c.x.make(1, 4, 1);
            for (int i : ROUND_THE_EDGES) {
                c.x.length(9);
                c.told("loop from " + i, c.x.loop(0, i, 1, 0, n), 0, 0);
                c.x.length(9);
                c.told("loop to " + i, c.x.loop(0, 0, 1, i, n), 0, 0);
            }
            c.holdsThings(1, NONE);
        }
    }

    private static void whichStopsFirst() {
        Check c = new Check("\"for each ITEM 3, if it is none of x's, or its place none of y's; 2, if it does not\"");
        c.things(0, 3, 101, 2);
        c.x.make(1, 4, 3);
        c.x.make(2, 4, 1);
        c.told("loop: 2 at ITEM 1 ahead of 3 at ITEM 2", c.x.loop(0, 0, 1, 0, 3), 1, 2);
        c.holdsThings(1, 101, NONE, NONE);
        c.told("loop: 3 and 2 at ITEM 1", c.x.loop(0, 0, 2, 0, 2), 1, 3);
        c.holdsThings(2, 101);
        c.x.make(1, 4, 3);
        c.told("move: 3 of all of it ahead of 2", c.x.move(0, 0, 1, 0, 3), 0, 3);
        c.told("move: 3 of y ahead of 2", c.x.move(0, 0, 2, 0, 2), 0, 3);
        c.holdsThings(1, NONE, NONE, NONE);
        c.told("move: 2, with the one before it moved", c.x.move(0, 0, 1, 1, 2), 1, 2);
        c.holdsThings(1, NONE, 101, NONE);
    }
}
