/** PLACES that are none, other KINDS and CLASSES, lengths above 40: OUTSIDE, and neither CODE nor a PLACE changes. */
public final class OutsideTest {
    private static final int[] NO_PLACES = {-1, 12, 13, Integer.MIN_VALUE, Integer.MAX_VALUE};

    public static void main(String[] args) {
        for (int p : NO_PLACES) {
            onePlace(p);
            twoPlaces(p, 0);
            twoPlaces(0, p);
            twoPlaces(11, p);
            threePlaces(p, 0, 0);
            threePlaces(0, p, 0);
            threePlaces(0, 0, p);
        }
        otherNumbers();
        lastPlace();
        Check.end();
    }

    private static Check ready() {
        Check c = new Check("OUTSIDE");
        c.numbers(0, 1, 0, 0);
        c.x.length(11);
        return c;
    }

    private static void out(Check c, String what, int got) {
        c.told(what, got, CopyRows.OUTSIDE, 1);
    }

    private static void unchanged(Check c) {
        c.holdsNumbers(0, 0, 0);
        c.due("held(0)", c.x.held(0), 1);
        for (int place = 1; place < 12; place++) {
            c.due("kind(" + place + ")", c.x.kind(place), CopyRows.NONE);
        }
    }

    private static void onePlace(int p) {
        Check c = ready();
        out(c, "make", c.x.make(p, 1, 1));
        out(c, "make, n below 0", c.x.make(p, 1, -1));
        out(c, "nothing", c.x.nothing(p));
        out(c, "lump", c.x.lump(p));
        out(c, "kind", c.x.kind(p));
        out(c, "length", c.x.length(p));
        out(c, "set", c.x.set(p, 0, 1));
        out(c, "thing", c.x.thing(p, 0, 0, 1));
        out(c, "item", c.x.item(p, 0));
        out(c, "classOf", c.x.classOf(p, 0));
        out(c, "rotate", c.x.rotate(p, 1));
        out(c, "sum", c.x.sum(p));
        out(c, "mean", c.x.mean(p));
        out(c, "held", c.x.held(p));
        unchanged(c);
    }

    private static void twoPlaces(int a, int b) {
        Check c = ready();
        out(c, "share", c.x.share(a, b));
        out(c, "hang", c.x.hang(a, 0, b));
        out(c, "move", c.x.move(a, 0, b, 0, 1));
        out(c, "loop", c.x.loop(a, 0, b, 0, 1));
        out(c, "loop of none", c.x.loop(a, 0, b, 0, 0));
        out(c, "copy", c.x.copy(a, b));
        out(c, "slice", c.x.slice(a, b, 0, 1));
        out(c, "slice, n below 0", c.x.slice(a, b, 0, -1));
        out(c, "same", c.x.same(a, b));
        out(c, "equal", c.x.equal(a, b));
        out(c, "compare", c.x.compare(a, b));
        unchanged(c);
    }

    private static void threePlaces(int a, int b, int d) {
        Check c = ready();
        out(c, "join", c.x.join(a, b, d));
        out(c, "update", c.x.update(a, b, d));
        unchanged(c);
    }

    private static void otherNumbers() {
        Check c = ready();
        int[] noKinds = {-1, 6, 7, Integer.MIN_VALUE, Integer.MAX_VALUE};
        for (int kind : noKinds) {
            out(c, "make of KIND " + kind, c.x.make(0, kind, 1));
            out(c, "make of KIND " + kind + ", n below 0", c.x.make(0, kind, -1));
        }
        out(c, "make of 41", c.x.make(0, 1, 41));
        out(c, "make of MAX", c.x.make(0, 1, Integer.MAX_VALUE));
        int[] noClasses = {-2, 3, 4, Integer.MIN_VALUE, Integer.MAX_VALUE};
        for (int cls : noClasses) {
            out(c, "thing of CLASS " + cls, c.x.thing(0, 0, cls, 1));
            out(c, "thing of CLASS " + cls + " in NOTHING", c.x.thing(1, 0, cls, 1));
        }
        unchanged(c);
    }

    private static void lastPlace() {
        Check c = new Check("the last PLACE");
        c.told("make(11, 1, 1)", c.x.make(11, 1, 1), 1, 0);
        c.told("set(11, 0, 5)", c.x.set(11, 0, 5), 0, 0);
        c.told("copy(10, 11)", c.x.copy(10, 11), 1, 0);
        c.told("join(11, 11, 10)", c.x.join(11, 11, 10), 2, 0);
        c.holdsNumbers(11, 5, 5);
    }
}
