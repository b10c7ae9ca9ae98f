/** Long runs of calls, drawn by a fixed rule, each answer and CODE held against the model. */
public final class ModelTest {
    // Two calls are made for each that is drawn, and an object is promised for 512.
    private static final int RUNS = 8000, CALLS = 128, PROMISED = 512;
    private static final int[] FAR = {
        -1, -2, 12, 40, 41, 100, Integer.MIN_VALUE, Integer.MAX_VALUE, Integer.MIN_VALUE + 1, Integer.MAX_VALUE - 1};

    private long seed;
    private final int few;

    private ModelTest(int run) {
        seed = run * 7919L + 17;
        // Few PLACES make calls meet the same ROWS; all of them are used by some runs.
        few = run % 3 == 0 ? 12 : 3 + run % 3;
    }

    public static void main(String[] args) {
        int[] told = new int[26];
        int[] codes = new int[7];
        for (int run = 0; run < RUNS; run++) {
            new ModelTest(run).go(new Check("run " + run), new Model(), told, codes);
        }
        Check c = new Check("what was drawn");
        for (int which = 0; which < 25; which++) {
            c.due("call " + which + " was drawn often", told[which] > 1000 ? 1 : 0, 1);
        }
        for (int code = 0; code < codes.length; code++) {
            c.due("CODE " + code + " came up often", codes[code] > 1000 ? 1 : 0, 1);
        }
        Check.end();
    }

    private int draw(int bound) {
        seed = seed * 6364136223846793005L + 1442695040888963407L;
        return (int) ((seed >>> 33) % bound);
    }

    private int far() {
        return FAR[draw(FAR.length)];
    }

    private int place() {
        return draw(200) == 0 ? far() : draw(few);
    }

    private int index() {
        return draw(25) == 0 ? far() : draw(6);
    }

    private int number() {
        return draw(8) == 0 ? far() : draw(3) == 0 ? draw(600) - 300 : draw(6);
    }

    private int size() {
        return draw(25) == 0 ? far() : draw(25) == 0 ? draw(41) : draw(7);
    }

    private int kind() {
        return draw(60) == 0 ? far() : draw(6);
    }

    private int cls() {
        return draw(60) == 0 ? far() : draw(4) - 1;
    }

    private void go(Check c, Model m, int[] told, int[] codes) {
        for (int t = 0; t < CALLS; t++) {
            // Ahead of the others, ROWS: else most calls would meet NOTHING.
            int which = t < few ? 0 : draw(25);
            told[which]++;
            if (which < 12) {
                small(c, m, which);
            } else {
                large(c, m, which);
            }
            c.due("call " + t + " (" + which + "): code()", c.x.code(), m.code);
            codes[m.code]++;
        }
        whole(c, m);
    }

    private void small(Check c, Model m, int which) {
        CopyRows x = c.x;
        int p = place();
        int q = place();
        int k = index();
        int v = number();
        int n = size();
        int kind = kind();
        int cls = cls();
        switch (which) {
            case 0: c.due("make", x.make(p, kind, n), m.make(p, kind, n)); break;
            case 1: c.due("share", x.share(p, q), m.share(p, q)); break;
            case 2: rarely(c, m, p); break;
            case 3: c.due("kind", x.kind(p), m.kind(p)); break;
            case 4: c.due("length", x.length(p), m.length(p)); break;
            case 5: c.due("set", x.set(p, k, v), m.set(p, k, v)); break;
            case 6: c.due("thing", x.thing(p, k, cls, v), m.thing(p, k, cls, v)); break;
            case 7: c.due("hang", x.hang(p, k, q), m.hang(p, k, q)); break;
            case 8: c.due("item", x.item(p, k), m.item(p, k)); break;
            case 9: c.due("classOf", x.classOf(p, k), m.classOf(p, k)); break;
            case 10: c.due("same", x.same(p, q), m.same(p, q)); break;
            default: c.due("equal", x.equal(p, q), m.equal(p, q)); break;
        }
    }

    private void rarely(Check c, Model m, int p) {
        if (draw(2) == 0) {
            c.due("nothing", c.x.nothing(p), m.nothing(p));
        } else {
            c.due("lump", c.x.lump(p), m.lump(p));
        }
    }

    private void large(Check c, Model m, int which) {
        CopyRows x = c.x;
        int p = place();
        int q = place();
        int r = place();
        int i = index();
        int j = index();
        int n = size();
        int v = number();
        switch (which) {
            case 12: c.due("move", x.move(p, i, q, j, n), m.move(p, i, q, j, n)); break;
            case 13: c.due("move from 0", x.move(p, 0, q, 0, i), m.move(p, 0, q, 0, i)); break;
            case 14: c.due("loop", x.loop(p, i, q, j, n), m.loop(p, i, q, j, n)); break;
            case 15: c.due("loop from 0", x.loop(p, 0, q, 0, i), m.loop(p, 0, q, 0, i)); break;
            case 16: c.due("copy", x.copy(p, q), m.copy(p, q)); break;
            case 17: c.due("slice", x.slice(p, q, i, n), m.slice(p, q, i, n)); break;
            case 18: c.due("join", x.join(p, q, r), m.join(p, q, r)); break;
            case 19: c.due("update", x.update(p, q, r), m.update(p, q, r)); break;
            case 20: c.due("rotate", x.rotate(p, v), m.rotate(p, v)); break;
            case 21: c.due("sum", x.sum(p), m.sum(p)); break;
            case 22: c.due("mean", x.mean(p), m.mean(p)); break;
            case 23: c.due("compare", x.compare(p, q), m.compare(p, q)); break;
            default: c.due("held", x.held(p), m.held(p)); break;
        }
    }

    /** All that can be seen at the end of a run, PLACE by PLACE, while calls are left. */
    private void whole(Check c, Model m) {
        int left = PROMISED - 2 * CALLS;
        for (int p = 0; p < few; p++) {
            left -= 3 + 2 * m.length(p) + 2 * few;
            if (left < 0) {
                return;
            }
            c.due("kind at the end", c.x.kind(p), m.kind(p));
            c.due("held at the end", c.x.held(p), m.held(p));
            int length = m.length(p);
            c.due("length at the end", c.x.length(p), length);
            for (int k = 0; k < length; k++) {
                c.due("item at the end", c.x.item(p, k), m.item(p, k));
                c.due("classOf at the end", c.x.classOf(p, k), m.classOf(p, k));
            }
            for (int q = 0; q < few; q++) {
                c.due("same at the end", c.x.same(p, q), m.same(p, q));
                c.due("equal at the end", c.x.equal(p, q), m.equal(p, q));
            }
        }
    }
}
