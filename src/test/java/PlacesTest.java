/** Promises 1 to 8: a new object, code, make, share, nothing, lump, kind, length. */
public final class PlacesTest {
    public static void main(String[] args) {
        newObject();
        code();
        make();
        share();
        nothing();
        lump();
        kindAndLength();
        Check.end();
    }

    private static void newObject() {
        Check c = new Check("promise 1");
        c.due("code()", c.x.code(), 0);
        for (int place = 0; place < 12; place++) {
            c.due("kind(" + place + ")", c.x.kind(place), CopyRows.NONE);
            c.due("held(" + place + ")", c.x.held(place), 0);
        }
        c.due("code()", c.x.code(), 0);
        CopyRows other = new CopyRows();
        c.told("make(0, 1, 2)", c.x.make(0, 1, 2), 2, 0);
        c.due("kind(0) of another object", other.kind(0), CopyRows.NONE);
        c.told("make(0, 1, -1)", c.x.make(0, 1, -1), 0, 4);
        c.due("code() of another object", other.code(), 0);
        c.due("kind(0) of a later object", new CopyRows().kind(0), CopyRows.NONE);
        c.due("code() of a later object", new CopyRows().code(), 0);
    }

    private static void code() {
        Check c = new Check("promise 2");
        c.told("length(0)", c.x.length(0), 0, 1);
        c.told("share(1, 0)", c.x.share(1, 0), CopyRows.NONE, 1);
        c.told("nothing(1)", c.x.nothing(1), CopyRows.NONE, 1);
        c.told("lump(1)", c.x.lump(1), 1, 1);
        c.told("kind(1)", c.x.kind(1), 6, 1);
        c.told("same(1, 1)", c.x.same(1, 1), 1, 1);
        c.told("equal(1, 1)", c.x.equal(1, 1), 1, 1);
        c.told("held(1)", c.x.held(1), 1, 1);
        c.told("code()", c.x.code(), 1, 1);
        c.told("length(1)", c.x.length(1), 0, 5);
        c.told("make(2, 1, 2)", c.x.make(2, 1, 2), 2, 0);
        tellingDone(c);
    }

    /** Every call that tells a CODE tells 0 too: a CODE above 0 stands ahead of each. */
    private static void tellingDone(Check c) {
        CopyRows x = c.x;
        x.make(3, 3, 1);
        x.make(4, 2, 1);
        x.make(7, 1, 0);
        x.length(11);
        c.told("length", x.length(2), 2, 0);
        x.length(11);
        c.told("make", x.make(5, 0, 0), 0, 0);
        x.length(11);
        c.told("set", x.set(2, 0, 1), 0, 0);
        x.length(11);
        c.told("thing", x.thing(3, 0, 0, 1), 1, 0);
        x.length(11);
        c.told("hang", x.hang(4, 0, 2), 1, 0);
        x.length(11);
        c.told("item", x.item(2, 0), 1, 0);
        x.length(11);
        c.told("classOf", x.classOf(3, 0), 0, 0);
        x.length(11);
        c.told("move", x.move(2, 0, 2, 1, 1), 1, 0);
        x.length(11);
        c.told("loop", x.loop(2, 0, 2, 1, 1), 1, 0);
        x.length(11);
        c.told("loop of none", x.loop(2, 9, 2, 9, 0), 0, 0);
        x.length(11);
        c.told("loop of fewer than none", x.loop(2, 9, 2, 9, -1), 0, 0);
        x.length(11);
        c.told("move of none", x.move(2, 2, 2, 2, 0), 0, 0);
        x.length(11);
        c.told("update by none", x.update(2, 7, 2), 0, 0);
        x.length(11);
        c.told("copy", x.copy(6, 2), 2, 0);
        x.length(11);
        c.told("slice", x.slice(6, 2, 0, 1), 1, 0);
        x.length(11);
        c.told("join", x.join(6, 2, 2), 4, 0);
        x.length(11);
        c.told("update", x.update(6, 2, 2), 2, 0);
        x.length(11);
        c.told("rotate", x.rotate(2, 1), 1, 0);
        x.length(11);
        c.told("sum", x.sum(2), 2, 0);
        x.length(11);
        c.told("mean", x.mean(2), 1, 0);
        x.length(11);
        c.told("compare", x.compare(2, 2), 0, 0);
    }

    private static void make() {
        Check c = new Check("promise 3");
        for (int kind = 0; kind <= 5; kind++) {
            c.told("make(0, kind, 40)", c.x.make(0, kind, 40), 40, 0);
            c.due("kind(0)", c.x.kind(0), kind);
            c.told("length(0)", c.x.length(0), 40, 0);
            c.told("item(0, 39)", c.x.item(0, 39), 0, kind <= 1 ? 0 : 1);
            c.told("make(0, kind, -1)", c.x.make(0, kind, -1), 0, 4);
            c.told("length(0), which stays", c.x.length(0), 40, 0);
            c.told("make(0, kind, 0)", c.x.make(0, kind, 0), 0, 0);
            c.told("length(0)", c.x.length(0), 0, 0);
        }
        c.told("make(1, 1, MIN)", c.x.make(1, 1, Integer.MIN_VALUE), 0, 4);
        c.due("kind(1)", c.x.kind(1), CopyRows.NONE);
        c.told("make(1, 1, 41)", c.x.make(1, 1, 41), CopyRows.OUTSIDE, 4);
        c.told("make(1, 1, MAX)", c.x.make(1, 1, Integer.MAX_VALUE), CopyRows.OUTSIDE, 4);
        c.told("make(1, 6, -1)", c.x.make(1, 6, -1), CopyRows.OUTSIDE, 4);
        c.due("kind(1)", c.x.kind(1), CopyRows.NONE);
        c.numbers(2, 1, 5, 6);
        c.x.share(3, 2);
        c.told("make over a shared ROW", c.x.make(2, 1, 2), 2, 0);
        c.holdsNumbers(2, 0, 0);
        c.holdsNumbers(3, 5, 6);
    }

    private static void share() {
        Check c = new Check("promise 4");
        c.numbers(0, 1, 5, 6);
        c.due("share(1, 0)", c.x.share(1, 0), 1);
        c.due("same(0, 1)", c.x.same(0, 1), 1);
        c.told("set(1, 1, 9)", c.x.set(1, 1, 9), 6, 0);
        c.holdsNumbers(0, 5, 9);
        c.due("share(0, 0)", c.x.share(0, 0), 1);
        c.due("share(0, 2)", c.x.share(0, 2), CopyRows.NONE);
        c.due("kind(0)", c.x.kind(0), CopyRows.NONE);
        c.holdsNumbers(1, 5, 9);
        c.x.lump(3);
        c.due("share(1, 3)", c.x.share(1, 3), 6);
        c.due("same(1, 3)", c.x.same(1, 3), 1);
        for (int kind = 0; kind <= 5; kind++) {
            c.x.make(4, kind, 1);
            c.due("share(5, 4)", c.x.share(5, 4), kind);
        }
    }

    private static void nothing() {
        Check c = new Check("promise 5");
        c.due("nothing(0)", c.x.nothing(0), CopyRows.NONE);
        for (int kind = 0; kind <= 5; kind++) {
            c.x.make(0, kind, 1);
            c.x.share(1, 0);
            c.due("nothing(0)", c.x.nothing(0), kind);
            c.due("kind(0)", c.x.kind(0), CopyRows.NONE);
            c.due("kind(1)", c.x.kind(1), kind);
        }
        c.x.lump(0);
        c.due("nothing(0)", c.x.nothing(0), 6);
        c.due("nothing(0) again", c.x.nothing(0), CopyRows.NONE);
    }

    private static void lump() {
        Check c = new Check("promise 6");
        c.due("lump(11)", c.x.lump(11), 1);
        c.due("kind(11)", c.x.kind(11), 6);
        c.x.share(0, 11);
        c.due("lump(11) again", c.x.lump(11), 1);
        c.due("same(0, 11): a new LUMP each time", c.x.same(0, 11), 0);
        c.x.make(1, 1, 1);
        c.due("lump(1)", c.x.lump(1), 1);
        c.due("kind(1)", c.x.kind(1), 6);
    }

    private static void kindAndLength() {
        Check c = new Check("promises 7, 8");
        for (int n = 0; n <= 40; n++) {
            int kind = n % 6;
            c.x.make(n % 12, kind, n);
            c.due("kind", c.x.kind(n % 12), kind);
            c.told("length", c.x.length(n % 12), n, 0);
        }
        c.x.nothing(0);
        c.x.lump(1);
        c.due("kind(0)", c.x.kind(0), CopyRows.NONE);
        c.told("length(0)", c.x.length(0), 0, 1);
        c.due("kind(1)", c.x.kind(1), 6);
        c.told("length(1)", c.x.length(1), 0, 5);
    }
}
