/** Promises 1 to 13: each sentence that names an edge has a test here. What is refused stands in RefusedTest. */
public final class EdgesOfItemsTest {
    private static final int NONE = CopyRows.NONE, MAX = Integer.MAX_VALUE, MIN = Integer.MIN_VALUE;

    public static void main(String[] args) {
        newObject();
        for (int code = 0; code <= 6; code++) {
            codeStays(code);
        }
        make();
        share();
        nothing();
        lump();
        kind();
        length();
        set();
        setOfBytes();
        thing();
        thingIsNew();
        hang();
        hangNothing();
        item();
        classOf();
        Check.end();
    }

    private static void newObject() {
        Check c = new Check("promise 1: \"All PLACES hold NOTHING; CODE 0.\"");
        c.due("code()", c.x.code(), 0);
        c.x.length(0);
        c.due("code() of a new object beside one with CODE 1", new CopyRows().code(), 0);
        c.due("code()", c.x.code(), 1);
    }

    private static void tell(CopyRows x, int code) {
        switch (code) {
            case 0: x.length(4); break;
            case 1: x.length(7); break;
            case 2: x.move(4, 0, 6, 0, 0); break;
            case 3: x.item(4, -1); break;
            case 4: x.make(0, 0, -1); break;
            case 5: x.length(6); break;
            default: x.mean(5); break;
        }
    }

    private static void codeStays(int code) {
        Check c = new Check("promise 2: \"CODE of the latest call that tells one\"");
        CopyRows x = c.x;
        x.make(4, 1, 2);
        x.make(5, 1, 0);
        x.lump(6);
        tell(x, code);
        c.due("code()", x.code(), code);
        c.told("share of a ROW", x.share(0, 4), 1, code);
        c.told("share of NOTHING", x.share(1, 7), NONE, code);
        c.told("nothing", x.nothing(0), 1, code);
        c.told("nothing of NOTHING", x.nothing(0), NONE, code);
        c.told("lump", x.lump(2), 1, code);
        c.told("kind", x.kind(4), 1, code);
        c.told("kind of NOTHING", x.kind(7), NONE, code);
        c.told("same", x.same(4, 5), 0, code);
        c.told("equal", x.equal(4, 7), 0, code);
        c.told("held", x.held(4), 1, code);
        c.told("held of NOTHING", x.held(7), 0, code);
        c.told("code", x.code(), code, code);
        c.told("make, OUTSIDE", x.make(0, 6, 0), CopyRows.OUTSIDE, code);
        c.told("make, done", x.make(0, 0, 0), 0, 0);
    }

    private static void make() {
        for (int kind = 0; kind <= 5; kind++) {
            Check c = new Check("promise 3: \"A PLACE holds a new ROW of a KIND with n ITEMS: n\"");
            int[] sizes = {0, 1, 39, 40};
            for (int n : sizes) {
                c.x.share(1, 0);
                c.x.length(9);
                c.told("make(0, " + kind + ", " + n + ")", c.x.make(0, kind, n), n, 0);
                c.due("kind(0)", c.x.kind(0), kind);
                c.due("same(0, 1): a new one", c.x.same(0, 1), 0);
                c.due("held(0)", c.x.held(0), 1);
            }
            c.told("\"0 with CODE 4: n is below 0\"", c.x.make(0, kind, -1), 0, 4);
            c.told("n far below 0", c.x.make(0, kind, MIN), 0, 4);
            c.told("length(0) stays", c.x.length(0), 40, 0);
            c.told("n 0 is not below 0", c.x.make(0, kind, 0), 0, 0);
            c.told("length(0)", c.x.length(0), 0, 0);
        }
    }

    private static void share() {
        Check c = new Check("promise 4: \"A PLACE holds what another one holds: its KIND, as kind().\"");
        for (int kind = 0; kind <= 5; kind++) {
            c.x.make(11, kind, 0);
            c.due("share(0, 11) of KIND " + kind, c.x.share(0, 11), kind);
            c.due("same(0, 11)", c.x.same(0, 11), 1);
            c.due("share(11, 11): itself", c.x.share(11, 11), kind);
            c.due("held(11)", c.x.held(11), 2);
        }
        c.x.lump(11);
        c.due("share(0, 11) of a LUMP", c.x.share(0, 11), 6);
        c.due("share(0, 1) of NOTHING", c.x.share(0, 1), NONE);
        c.due("kind(0)", c.x.kind(0), NONE);
        c.due("kind(11) stays", c.x.kind(11), 6);
        c.due("share(1, 1): NOTHING to itself", c.x.share(1, 1), NONE);
    }

    private static void nothing() {
        Check c = new Check("promise 5: \"A PLACE holds NOTHING: the KIND of what it held.\"");
        for (int kind = 0; kind <= 5; kind++) {
            c.x.make(0, kind, 0);
            c.due("nothing(0) of KIND " + kind, c.x.nothing(0), kind);
            c.due("nothing(0) of NOTHING", c.x.nothing(0), NONE);
        }
        c.x.lump(0);
        c.due("nothing(0) of a LUMP", c.x.nothing(0), 6);
        c.x.make(0, 1, 2);
        c.x.share(1, 0);
        c.x.nothing(0);
        c.told("length(1): another PLACE still holds it", c.x.length(1), 2, 0);
        c.x.make(2, 2, 1);
        c.x.hang(2, 0, 1);
        c.x.nothing(1);
        c.told("item(2, 0): it still hangs there", c.x.item(2, 0), 2, 0);
    }

    private static void lump() {
        Check c = new Check("promise 6: \"A PLACE holds a new LUMP: 1.\"");
        c.due("lump(0)", c.x.lump(0), 1);
        c.x.share(1, 0);
        c.due("lump(0) over a LUMP", c.x.lump(0), 1);
        c.due("same(0, 1)", c.x.same(0, 1), 0);
        c.due("equal(0, 1)", c.x.equal(0, 1), 0);
        c.due("held(1)", c.x.held(1), 1);
        for (int kind = 0; kind <= 5; kind++) {
            c.x.make(2, kind, 3);
            c.due("lump(2) over KIND " + kind, c.x.lump(2), 1);
            c.due("kind(2)", c.x.kind(2), 6);
        }
    }

    private static void kind() {
        Check c = new Check("promise 7: \"the KIND of a ROW, 6 a LUMP, NONE for NOTHING\"");
        for (int kind = 0; kind <= 5; kind++) {
            c.x.make(0, kind, 0);
            c.due("kind(0), empty", c.x.kind(0), kind);
            c.x.make(0, kind, 40);
            c.due("kind(0), full", c.x.kind(0), kind);
        }
        c.x.lump(0);
        c.due("kind(0)", c.x.kind(0), 6);
        c.x.nothing(0);
        c.due("kind(0)", c.x.kind(0), NONE);
    }

    private static void length() {
        Check c = new Check("promise 8: \"How many ITEMS a ROW has; 0 with CODE 1, 5 (a LUMP).\"");
        for (int kind = 0; kind <= 5; kind++) {
            c.x.make(0, kind, 0);
            c.x.length(9);
            c.told("length(0) of an empty ROW", c.x.length(0), 0, 0);
            c.x.make(0, kind, 40);
            c.told("length(0) of a full ROW", c.x.length(0), 40, 0);
        }
        c.told("length(1)", c.x.length(1), 0, 1);
        c.x.lump(1);
        c.told("length(1)", c.x.length(1), 0, 5);
    }

    private static void set() {
        for (int kind = 0; kind <= 1; kind++) {
            Check c = new Check("promise 9: \"is v: what it was\"");
            c.x.make(0, kind, 40);
            int[] ks = {0, 39};
            for (int k : ks) {
                c.told("set(0, " + k + ", 5)", c.x.set(0, k, 5), 0, 0);
                c.told("set(0, " + k + ", -6)", c.x.set(0, k, -6), 5, 0);
                c.told("set(0, " + k + ", -6)", c.x.set(0, k, -6), -6, 0);
                c.told("item(0, " + k + ")", c.x.item(0, k), -6, 0);
            }
            c.told("item(0, 1) stays", c.x.item(0, 1), 0, 0);
            c.told("item(0, 38) stays", c.x.item(0, 38), 0, 0);
        }
        Check c = new Check("promise 9, INTS");
        c.numbers(0, 1, MAX);
        c.told("set(0, 0, MIN)", c.x.set(0, 0, MIN), MAX, 0);
        c.told("set(0, 0, 128)", c.x.set(0, 0, 128), MIN, 0);
        c.told("item(0, 0)", c.x.item(0, 0), 128, 0);
    }

    private static void setOfBytes() {
        Check c = new Check("promise 9: \"v as its lowest 8 bits, with a sign\"");
        c.x.make(0, 0, 1);
        c.told("set(0, 0, 128)", c.x.set(0, 0, 128), 0, 0);
        c.told("set(0, 0, 511)", c.x.set(0, 0, 511), -128, 0);
        c.told("set(0, 0, -129)", c.x.set(0, 0, -129), -1, 0);
        c.told("set(0, 0, MIN)", c.x.set(0, 0, MIN), 127, 0);
        c.told("set(0, 0, MAX)", c.x.set(0, 0, MAX), 0, 0);
        c.told("item(0, 0)", c.x.item(0, 0), -1, 0);
    }

    private static void thing() {
        int[] numbers = {MIN, -1, 0, MAX};
        for (int kind = 3; kind <= 5; kind++) {
            Check c = new Check("promise 10: \"a new THING with a number, of a CLASS (NONE: nothing): 1\"");
            int cls = kind - 3;
            c.x.make(0, kind, 40);
            for (int number : numbers) {
                c.told("thing(0, 0, ..)", c.x.thing(0, 0, cls, number), 1, 0);
                c.told("item(0, 0)", c.x.item(0, 0), number, 0);
                c.told("thing(0, 39, ..)", c.x.thing(0, 39, cls, number), 1, 0);
                c.told("item(0, 39)", c.x.item(0, 39), number, 0);
                c.told("classOf(0, 39)", c.x.classOf(0, 39), cls, 0);
                c.told("thing(0, 39, NONE, ..): nothing", c.x.thing(0, 39, NONE, number), 1, 0);
                c.told("item(0, 39)", c.x.item(0, 39), 0, 1);
                c.told("thing(0, 39, NONE, ..): nothing again", c.x.thing(0, 39, NONE, number), 1, 0);
            }
            c.told("item(0, 1) stays", c.x.item(0, 1), 0, 1);
        }
    }

    private static void thingIsNew() {
        Check c = new Check("promise 10: \"a new THING\"");
        c.things(0, 5, 205);
        c.x.copy(1, 0);
        c.told("thing(0, 0, 2, 5) over its like", c.x.thing(0, 0, 2, 5), 1, 0);
        c.due("equal(0, 1)", c.x.equal(0, 1), 0);
        c.x.thing(0, 0, NONE, 5);
        c.x.thing(1, 0, NONE, 6);
        c.due("equal(0, 1): nothing has no number", c.x.equal(0, 1), 1);
    }

    private static void hang() {
        Check c = new Check("promise 11: \"ITEM k of TABLES is the INTS ROW of another PLACE\"");
        c.x.make(0, 2, 40);
        c.x.make(1, 1, 40);
        c.x.make(2, 1, 0);
        c.told("hang(0, 0, 1)", c.x.hang(0, 0, 1), 1, 0);
        c.told("hang(0, 39, 2)", c.x.hang(0, 39, 2), 1, 0);
        c.told("item(0, 0)", c.x.item(0, 0), 40, 0);
        c.told("item(0, 39)", c.x.item(0, 39), 0, 0);
        c.told("hang(0, 39, 1) over another", c.x.hang(0, 39, 1), 1, 0);
        c.due("held(1)", c.x.held(1), 3);
        c.due("held(2)", c.x.held(2), 1);
        c.x.share(1, 2);
        c.told("item(0, 0): the ROW, not the PLACE, hangs there", c.x.item(0, 0), 40, 0);
        c.told("item(0, 38) stays", c.x.item(0, 38), 0, 1);
    }

    private static void hangNothing() {
        Check c = new Check("promise 11: \"(or nothing, as that holds)\", \"CODE 1 (place alone)\"");
        c.x.make(0, 2, 1);
        c.x.make(1, 1, 3);
        c.x.hang(0, 0, 1);
        c.told("hang(0, 0, 9): NOTHING there is no CODE 1", c.x.hang(0, 0, 9), 1, 0);
        c.told("item(0, 0)", c.x.item(0, 0), 0, 1);
        c.told("hang(0, 0, 9) again", c.x.hang(0, 0, 9), 1, 0);
        c.told("hang(9, 0, 1)", c.x.hang(9, 0, 1), 0, 1);
        c.told("hang(9, 0, 9)", c.x.hang(9, 0, 9), 0, 1);
        c.told("hang(0, 0, 0): TABLES in TABLES", c.x.hang(0, 0, 0), 0, 5);
    }

    private static void item() {
        Check c = new Check("promise 12: \"(also: nothing is there), 5 (a LUMP), 3 (ahead of 1 for what is there)\"");
        c.numbers(0, 0, -128);
        c.told("item of BYTES", c.x.item(0, 0), -128, 0);
        c.numbers(1, 1, MIN);
        c.told("item of INTS", c.x.item(1, 0), MIN, 0);
        c.x.make(2, 2, 1);
        c.told("item of TABLES, nothing", c.x.item(2, 0), 0, 1);
        c.told("item of TABLES, behind nothing", c.x.item(2, 1), 0, 3);
        c.x.hang(2, 0, 1);
        c.told("item of TABLES", c.x.item(2, 0), 1, 0);
        for (int kind = 3; kind <= 5; kind++) {
            c.x.make(3, kind, 1);
            c.told("item of KIND " + kind + ", nothing", c.x.item(3, 0), 0, 1);
            c.told("item of KIND " + kind + ", behind nothing", c.x.item(3, 1), 0, 3);
            c.x.thing(3, 0, kind - 3, 0);
            c.told("item of KIND " + kind + ", a THING with number 0", c.x.item(3, 0), 0, 0);
        }
        c.told("item of NOTHING", c.x.item(9, 0), 0, 1);
        c.told("item of NOTHING, 1 ahead of 3", c.x.item(9, -1), 0, 1);
        c.x.lump(9);
        c.told("item of a LUMP", c.x.item(9, -1), 0, 5);
    }

    private static void classOf() {
        Check c = new Check("promise 13: \"NONE: nothing is there; 0 with CODE 1, 5, 3\"");
        for (int kind = 3; kind <= 5; kind++) {
            c.x.make(0, kind, 40);
            c.x.length(9);
            c.told("classOf(0, 0), nothing", c.x.classOf(0, 0), NONE, 0);
            c.told("classOf(0, 39), nothing", c.x.classOf(0, 39), NONE, 0);
            c.told("classOf(0, 40)", c.x.classOf(0, 40), 0, 3);
            c.told("classOf(0, -1)", c.x.classOf(0, -1), 0, 3);
            c.x.thing(0, 39, kind - 3, -1);
            c.told("classOf(0, 39)", c.x.classOf(0, 39), kind - 3, 0);
        }
        c.x.thing(0, 0, 2, 1);
        c.x.make(1, 3, 1);
        c.x.move(0, 0, 1, 0, 1);
        c.told("classOf(1, 0): a NODE in THINGS is a NODE", c.x.classOf(1, 0), 2, 0);
        c.told("classOf of NOTHING", c.x.classOf(9, 0), 0, 1);
    }
}
