/**
 * "What answers with a CODE above 0 changed nothing", "Of several CODES the first as told counts", and "OUTSIDE, ahead
 * of all; CODE stays then": each call that is refused, for each of its reasons and for two of them at once.
 */
public final class RefusedTest {
    private static final int NONE = CopyRows.NONE, MAX = Integer.MAX_VALUE, MIN = Integer.MIN_VALUE;
    private static final int LUMP = Rooms.LUMP, NOTHING = Rooms.NOTHING, FULL = Rooms.FULL, EMPTY = Rooms.EMPTY;

    private interface Call {
        int on(CopyRows x);
    }

    private final String about;

    private RefusedTest(String about) {
        this.about = about;
    }

    public static void main(String[] args) {
        new RefusedTest("promise 3: \"0 with CODE 4: n is below 0.\"").making();
        new RefusedTest("promise 8: \"0 with CODE 1, 5 (a LUMP).\"").lengths();
        new RefusedTest("promise 9: \"0 with CODE 1, 5 (of other KINDS, a LUMP), 3.\"").setting();
        new RefusedTest("promise 10: \"0 with CODE 1, 5 (of other KINDS, a LUMP), 3, 2.\"").things();
        new RefusedTest("promise 11: \"0 with CODE 1 (place alone), 5 (place's other KINDS, a LUMP; ..\"").hanging();
        new RefusedTest("promise 11: \"what the other one holds, but for NOTHING\"").hangingOther();
        new RefusedTest("promise 12: \"0 with CODE 1 (also: nothing is there), 5 (a LUMP), 3\"").items();
        new RefusedTest("promise 13: \"0 with CODE 1, 5, 3.\"").classes();
        new RefusedTest("\"CODES, of all of it, ahead of anything: 1 x or y is NOTHING; 2 x or y is a LUMP\"").moves();
        new RefusedTest("\"one is of BYTES or INTS, and the other is not of the same KIND\"").movesByKind();
        new RefusedTest("\"3 i, j or n is below 0\", ahead of what fits").movesByNumber();
        new RefusedTest("promise 16: \"0 with CODE 1, 5 (a LUMP).\"").copies();
        new RefusedTest("promise 17: \"0 with CODE 1, 5 (a LUMP), 4 (n below 0), 3.\"").slices();
        new RefusedTest("promise 18: \"0 with CODE 1 (a or b), 5 (a LUMP), 3 (above 40 together), 2\"").joins();
        new RefusedTest("promise 19: \"CODE 1 (place, indexes, values), 5, ahead of anything\"").updates();
        new RefusedTest("promise 20: \"0 with CODE 1, 5 (a LUMP), 6.\"").turns();
        new RefusedTest("promise 21: \"0 with CODE 1 (also where nothing is in TABLES), 5.\"").sums();
        new RefusedTest("promise 22: \"0 with CODE 1, 5 (also TABLES), 6.\"").means();
        new RefusedTest("promise 25: \"0 with CODE 1, 5.\"").comparisons();
        new RefusedTest("\"Calls that are given a PLACE that is none .. answer OUTSIDE\"").outsidePlaces();
        new RefusedTest("\"another KIND, CLASS, or (make()) a length above 40\"").outsideNumbers();
        Check.end();
    }

    private static String asFurnished() {
        CopyRows x = new CopyRows();
        Rooms.furnish(x);
        return Rooms.seen(x);
    }

    private void refused(String what, int answer, int code, Call call) {
        Check c = new Check(about);
        Rooms.furnish(c.x);
        c.told(what, call.on(c.x), answer, code);
        c.due("what can be seen is as it was after " + what, Rooms.seen(c.x).equals(asFurnished()) ? 1 : 0, 1);
    }

    private void no(String what, int code, Call call) {
        refused(what, 0, code, call);
    }

    private void outside(String what, Call call) {
        refused(what, CopyRows.OUTSIDE, 6, call);
    }

    private void making() {
        for (int kind = 0; kind <= 5; kind++) {
            int of = kind;
            no("make of n -1", 4, x -> x.make(1, of, -1));
            no("make of n MIN", 4, x -> x.make(NOTHING, of, MIN));
        }
    }

    private void lengths() {
        no("length of NOTHING", 1, x -> x.length(NOTHING));
        no("length of a LUMP", 5, x -> x.length(LUMP));
    }

    private void setting() {
        int[] none = {-1, 3, 40, MIN, MAX};
        for (int k : none) {
            no("set in NOTHING, 1 ahead of 3", 1, x -> x.set(NOTHING, k, 1));
            no("set in a LUMP, 5 ahead of 3", 5, x -> x.set(LUMP, k, 1));
            no("set in BYTES", 3, x -> x.set(0, k, 1));
            no("set in INTS", 3, x -> x.set(1, k, 1));
            for (int p = 2; p <= 5; p++) {
                int of = p;
                no("set in KIND " + p + ", 5 ahead of 3", 5, x -> x.set(of, k, 1));
            }
        }
        no("set in NOTHING", 1, x -> x.set(NOTHING, 0, 1));
        no("set in a LUMP", 5, x -> x.set(LUMP, 0, 1));
        no("set in TABLES", 5, x -> x.set(2, 0, 1));
        no("set in THINGS", 5, x -> x.set(3, 0, 1));
        no("set in LEAVES", 5, x -> x.set(4, 0, 1));
        no("set in NODES", 5, x -> x.set(5, 0, 1));
        no("set in an empty ROW", 3, x -> x.set(EMPTY, 0, 1));
        no("set behind ITEM 39", 3, x -> x.set(FULL, 40, 1));
    }

    private void things() {
        for (int cls = NONE; cls <= 2; cls++) {
            int of = cls;
            no("thing in NOTHING", 1, x -> x.thing(NOTHING, 0, of, 1));
            no("thing in NOTHING, 1 ahead of 3", 1, x -> x.thing(NOTHING, -1, of, 1));
            for (int p = 0; p <= 2; p++) {
                int place = p;
                no("thing in KIND " + p, 5, x -> x.thing(place, 0, of, 1));
                no("thing in KIND " + p + ", 5 ahead of 3", 5, x -> x.thing(place, 3, of, 1));
            }
            no("thing in a LUMP", 5, x -> x.thing(LUMP, 0, of, 1));
            for (int p = 3; p <= 5; p++) {
                int place = p;
                no("thing at -1, 3 ahead of 2", 3, x -> x.thing(place, -1, of, 1));
                no("thing at the length, 3 ahead of 2", 3, x -> x.thing(place, place == 5 ? 2 : 3, of, 1));
                no("thing at MAX, 3 ahead of 2", 3, x -> x.thing(place, MAX, of, 1));
                no("thing at MIN, 3 ahead of 2", 3, x -> x.thing(place, MIN, of, 1));
            }
        }
        no("a plain THING into LEAVES", 2, x -> x.thing(4, 0, 0, 1));
        no("a NODE into LEAVES", 2, x -> x.thing(4, 1, 2, 1));
        no("a plain THING into NODES", 2, x -> x.thing(5, 0, 0, 1));
        no("a LEAF into NODES", 2, x -> x.thing(5, 1, 1, 1));
    }

    private void hanging() {
        for (int p = 0; p <= 11; p++) {
            int other = p;
            no("hang in NOTHING, 1 ahead of 5", 1, x -> x.hang(NOTHING, 0, other));
            no("hang in NOTHING, 1 ahead of 3", 1, x -> x.hang(NOTHING, -1, other));
            no("hang in a LUMP", 5, x -> x.hang(LUMP, 0, other));
            no("hang in INTS, 5 ahead of 3", 5, x -> x.hang(1, 9, other));
            no("hang in THINGS", 5, x -> x.hang(3, 0, other));
        }
    }

    private void hangingOther() {
        int[] noInts = {0, 2, 3, 4, 5, LUMP};
        for (int other : noInts) {
            no("hang of what is no INTS", 5, x -> x.hang(2, 0, other));
            no("hang of what is no INTS, 5 ahead of 3", 5, x -> x.hang(2, 3, other));
        }
        int[] fitting = {1, NOTHING, EMPTY, FULL};
        for (int other : fitting) {
            no("hang at -1", 3, x -> x.hang(2, -1, other));
            no("hang at the length", 3, x -> x.hang(2, 3, other));
            no("hang at MIN", 3, x -> x.hang(2, MIN, other));
            no("hang at MAX", 3, x -> x.hang(2, MAX, other));
            no("hang in empty TABLES", 3, x -> x.hang(Rooms.EMPTY_TABLES, 0, other));
        }
    }

    private void items() {
        int[] none = {-1, 3, MIN, MAX};
        for (int k : none) {
            no("item of NOTHING, 1 ahead of 3", 1, x -> x.item(NOTHING, k));
            no("item of a LUMP, 5 ahead of 3", 5, x -> x.item(LUMP, k));
            for (int p = 0; p <= 5; p++) {
                int place = p;
                no("item of KIND " + p, 3, x -> x.item(place, k));
            }
        }
        no("item: nothing is there in TABLES", 1, x -> x.item(2, 1));
        no("item: nothing is there in LEAVES", 1, x -> x.item(4, 1));
        no("item: nothing is there in NODES", 1, x -> x.item(5, 1));
        no("item of an empty ROW", 3, x -> x.item(EMPTY, 0));
    }

    private void classes() {
        int[] none = {-1, 3, MIN, MAX};
        for (int k : none) {
            no("classOf of NOTHING, 1 ahead of 3", 1, x -> x.classOf(NOTHING, k));
            no("classOf of a LUMP, 5 ahead of 3", 5, x -> x.classOf(LUMP, k));
            for (int p = 0; p <= 5; p++) {
                int place = p;
                no("classOf of KIND " + p + ", 5 ahead of 3", p >= 3 ? 3 : 5, x -> x.classOf(place, k));
            }
        }
        no("classOf in BYTES", 5, x -> x.classOf(0, 0));
        no("classOf in INTS", 5, x -> x.classOf(1, 0));
        no("classOf in TABLES", 5, x -> x.classOf(2, 0));
        refused("classOf: nothing is there", NONE, 0, x -> x.classOf(5, 1));
    }

    private void moves() {
        int[] sizes = {MIN, -1, 0, 1, 3, 4, MAX};
        for (int n : sizes) {
            no("move of NOTHING, 1 ahead of 3", 1, x -> x.move(NOTHING, -1, 3, -1, n));
            no("move to NOTHING, 1 ahead of 3", 1, x -> x.move(3, -1, NOTHING, -1, n));
            no("move of a LUMP to NOTHING, 1 ahead of 2", 1, x -> x.move(LUMP, 0, NOTHING, 0, n));
            no("move of NOTHING to a LUMP, 1 ahead of 2", 1, x -> x.move(NOTHING, 0, LUMP, 0, n));
            no("move of a LUMP, 2 ahead of 3", 2, x -> x.move(LUMP, -1, 3, -1, n));
            no("move to a LUMP, 2 ahead of 3", 2, x -> x.move(3, -1, LUMP, -1, n));
            no("move of a LUMP to itself", 2, x -> x.move(LUMP, 0, LUMP, 0, n));
            no("loop of NOTHING, 1 ahead of 3", 1, x -> x.loop(NOTHING, -1, 3, -1, n));
            no("loop to NOTHING, 1 ahead of 3", 1, x -> x.loop(3, -1, NOTHING, -1, n));
            no("loop of a LUMP to NOTHING, 1 ahead of 2", 1, x -> x.loop(LUMP, 0, NOTHING, 0, n));
            no("loop of NOTHING to a LUMP, 1 ahead of 2", 1, x -> x.loop(NOTHING, 0, LUMP, 0, n));
            no("loop of a LUMP, 2 ahead of 3", 2, x -> x.loop(LUMP, -1, 3, -1, n));
            no("loop to a LUMP, 2 ahead of 3", 2, x -> x.loop(3, -1, LUMP, -1, n));
            no("loop of a LUMP to itself", 2, x -> x.loop(LUMP, 0, LUMP, 0, n));
        }
    }

    private void movesByNumber() {
        int[] sizes = {MIN, -1, 0, 1, 3, 4, MAX};
        for (int n : sizes) {
            no("move from -1, 3 ahead of what fits", 3, x -> x.move(3, -1, 4, 0, n));
            no("move to -1, 3 ahead of what fits", 3, x -> x.move(3, 1, 4, -1, n));
        }
        no("move, 3 at the end ahead of what fits at the beginning", 3, x -> x.move(3, 1, 4, 0, 3));
        no("move, 3 of y ahead of what fits", 3, x -> x.move(3, 1, 5, 1, 2));
        no("move of what does not fit", 2, x -> x.move(3, 1, 4, 0, 2));
        no("loop of what does not fit", 2, x -> x.loop(3, 1, 4, 0, 2));
        no("loop, 3 ahead of 2 for the same ITEM", 3, x -> x.loop(3, 1, 4, 3, 1));
    }

    /** BYTES and INTS go to their own KIND alone, whatever is asked of numbers. */
    private void movesByKind() {
        for (int a = 0; a <= 5; a++) {
            for (int b = 0; b <= 5; b++) {
                int from = a;
                int to = b;
                if ((a <= 1 || b <= 1) && a != b) {
                    String kinds = "KIND " + a + " to KIND " + b;
                    no("move of " + kinds, 2, x -> x.move(from, 0, to, 0, 1));
                    no("move of none of " + kinds, 2, x -> x.move(from, 0, to, 0, 0));
                    no("move of " + kinds + ", 2 ahead of 3", 2, x -> x.move(from, 9, to, -1, MAX));
                    no("loop of " + kinds, 2, x -> x.loop(from, 0, to, 0, 1));
                    no("loop of none of " + kinds, 2, x -> x.loop(from, 9, to, -1, 0));
                    no("loop of fewer than none of " + kinds, 2, x -> x.loop(from, 9, to, -1, MIN));
                    no("join of " + kinds, 2, x -> x.join(NOTHING, to, from));
                }
            }
        }
    }

    private void copies() {
        for (int p = 0; p <= 11; p++) {
            int place = p;
            no("copy of NOTHING", 1, x -> x.copy(place, NOTHING));
            no("copy of a LUMP", 5, x -> x.copy(place, LUMP));
        }
    }

    private void slices() {
        for (int p = 0; p <= 11; p++) {
            int place = p;
            no("slice of NOTHING, 1 ahead of 4", 1, x -> x.slice(place, NOTHING, 0, -1));
            no("slice of NOTHING, 1 ahead of 3", 1, x -> x.slice(place, NOTHING, -1, 1));
            no("slice of a LUMP, 5 ahead of 4", 5, x -> x.slice(place, LUMP, 0, -1));
            no("slice of a LUMP, 5 ahead of 3", 5, x -> x.slice(place, LUMP, 1, 0));
            no("slice of n -1", 4, x -> x.slice(place, 1, 0, -1));
            no("slice of n MIN, 4 ahead of 3", 4, x -> x.slice(place, 1, -1, MIN));
            no("slice from -1", 3, x -> x.slice(place, 1, -1, 1));
            no("slice of one too many", 3, x -> x.slice(place, 1, 1, 3));
            no("slice of MAX", 3, x -> x.slice(place, 1, 1, MAX));
        }
    }

    private void joins() {
        for (int p = 0; p <= 11; p++) {
            int place = p;
            no("join of NOTHING", 1, x -> x.join(place, NOTHING, 1));
            no("join with NOTHING", 1, x -> x.join(place, 1, NOTHING));
            no("join of a LUMP with NOTHING, 1 ahead of 5", 1, x -> x.join(place, LUMP, NOTHING));
            no("join of NOTHING with a LUMP, 1 ahead of 5", 1, x -> x.join(place, NOTHING, LUMP));
            no("join of a LUMP", 5, x -> x.join(place, LUMP, FULL));
            no("join with a LUMP", 5, x -> x.join(place, FULL, LUMP));
            no("join of 43", 3, x -> x.join(place, FULL, 1));
            no("join of 43 INTS with BYTES, 3 ahead of 2", 3, x -> x.join(place, FULL, 0));
            no("join of 43 TABLES with INTS, 3 ahead of 2", 3, x -> x.join(place, 2, FULL));
            no("join of LEAVES with THINGS", 2, x -> x.join(place, 4, 3));
            no("join of NODES with LEAVES", 2, x -> x.join(place, 5, 4));
            no("join of THINGS with TABLES", 2, x -> x.join(place, 3, 2));
            no("join of TABLES with THINGS", 2, x -> x.join(place, 2, 3));
            no("join of empty TABLES with empty INTS", 2, x -> x.join(place, Rooms.EMPTY_TABLES, EMPTY));
        }
    }

    private void updates() {
        int[] all = {0, 1, 2, 3, 4, 5, LUMP, FULL, EMPTY};
        for (int other : all) {
            no("update of NOTHING, 1 ahead of 5", 1, x -> x.update(NOTHING, other, other));
            no("update by NOTHING, 1 ahead of 5", 1, x -> x.update(other, NOTHING, other));
            no("update from NOTHING, 1 ahead of 5", 1, x -> x.update(other, other, NOTHING));
        }
        int[] noInts = {0, 2, 3, 4, 5, LUMP};
        for (int other : noInts) {
            no("update of no INTS, 5 ahead of 3", 5, x -> x.update(other, 1, EMPTY));
            no("update by no INTS", 5, x -> x.update(1, other, 1));
            no("update from no INTS, 5 ahead of 3", 5, x -> x.update(EMPTY, 1, other));
            no("update of no INTS by none", 5, x -> x.update(other, EMPTY, 1));
        }
        no("update: none of the values", 3, x -> x.update(FULL, 1, EMPTY));
        no("update: none of its own", 3, x -> x.update(EMPTY, 1, FULL));
    }

    private void turns() {
        int[] turns = {MIN, -1, 0, 1, MAX};
        for (int by : turns) {
            no("rotate of NOTHING", 1, x -> x.rotate(NOTHING, by));
            no("rotate of a LUMP, 5 and not 6", 5, x -> x.rotate(LUMP, by));
            no("rotate of an empty ROW", 6, x -> x.rotate(EMPTY, by));
        }
    }

    private void sums() {
        no("sum of NOTHING", 1, x -> x.sum(NOTHING));
        no("sum of a LUMP", 5, x -> x.sum(LUMP));
        no("sum of TABLES with nothing", 1, x -> x.sum(2));
        for (int p = 3; p <= 5; p++) {
            int place = p;
            no("sum of KIND " + p, 5, x -> x.sum(place));
        }
    }

    private void means() {
        no("mean of NOTHING", 1, x -> x.mean(NOTHING));
        no("mean of a LUMP", 5, x -> x.mean(LUMP));
        no("mean of an empty ROW", 6, x -> x.mean(EMPTY));
        no("mean of TABLES with nothing", 5, x -> x.mean(2));
        no("mean of empty TABLES, 5 ahead of 6", 5, x -> x.mean(Rooms.EMPTY_TABLES));
        for (int p = 3; p <= 5; p++) {
            int place = p;
            no("mean of KIND " + p, 5, x -> x.mean(place));
        }
    }

    private void comparisons() {
        for (int p = 0; p <= 11; p++) {
            int place = p;
            no("compare of NOTHING, 1 ahead of 5", 1, x -> x.compare(NOTHING, place));
            no("compare with NOTHING, 1 ahead of 5", 1, x -> x.compare(place, NOTHING));
            int code = place == NOTHING ? 1 : 5;
            no("compare of TABLES", code, x -> x.compare(2, place));
            no("compare with THINGS", code, x -> x.compare(place, 3));
            no("compare with a LUMP", code, x -> x.compare(place, LUMP));
        }
        no("compare of BYTES with INTS", 5, x -> x.compare(0, 1));
        no("compare of INTS with BYTES", 5, x -> x.compare(1, 0));
    }

    private void outsidePlaces() {
        int[] none = {-1, 12, MIN, MAX};
        for (int p : none) {
            outside("make", x -> x.make(p, 1, 1));
            outside("make, ahead of 4", x -> x.make(p, 1, -1));
            outside("nothing", x -> x.nothing(p));
            outside("lump", x -> x.lump(p));
            outside("kind", x -> x.kind(p));
            outside("length", x -> x.length(p));
            outside("set", x -> x.set(p, 0, 1));
            outside("thing", x -> x.thing(p, 0, 0, 1));
            outside("item", x -> x.item(p, 0));
            outside("classOf", x -> x.classOf(p, 0));
            outside("rotate", x -> x.rotate(p, 1));
            outside("sum", x -> x.sum(p));
            outside("mean", x -> x.mean(p));
            outside("held", x -> x.held(p));
            for (int q = 0; q <= 11; q++) {
                outsidePair(p, q);
                outsidePair(q, p);
            }
            outsidePair(p, p);
        }
    }

    private void outsidePair(int p, int q) {
        outside("share", x -> x.share(p, q));
        outside("hang", x -> x.hang(p, -1, q));
        outside("move", x -> x.move(p, -1, q, -1, -1));
        outside("loop", x -> x.loop(p, -1, q, -1, -1));
        outside("copy", x -> x.copy(p, q));
        outside("slice", x -> x.slice(p, q, -1, -1));
        outside("same", x -> x.same(p, q));
        outside("equal", x -> x.equal(p, q));
        outside("compare", x -> x.compare(p, q));
        outside("join", x -> x.join(p, q, 1));
        outside("join", x -> x.join(p, 1, q));
        outside("join", x -> x.join(1, p, q));
        outside("update", x -> x.update(p, q, 1));
        outside("update", x -> x.update(p, 1, q));
        outside("update", x -> x.update(1, p, q));
    }

    private void outsideNumbers() {
        int[] tooLong = {41, 42, MAX};
        for (int kind = 0; kind <= 5; kind++) {
            int of = kind;
            for (int n : tooLong) {
                outside("make of length " + n, x -> x.make(1, of, n));
                outside("make of length " + n + " in NOTHING", x -> x.make(NOTHING, of, n));
            }
        }
        int[] noKinds = {-1, 6, MIN, MAX};
        for (int kind : noKinds) {
            outside("make of KIND " + kind, x -> x.make(NOTHING, kind, 1));
            outside("make of KIND " + kind + ", ahead of 4", x -> x.make(1, kind, -1));
        }
        int[] noClasses = {-2, 3, MIN, MAX};
        for (int cls : noClasses) {
            for (int p = 0; p <= 11; p++) {
                int place = p;
                outside("thing of CLASS " + cls, x -> x.thing(place, 0, cls, 1));
                outside("thing of CLASS " + cls + ", ahead of 3", x -> x.thing(place, -1, cls, 1));
            }
        }
    }
}
