/** Promises 9 to 13: set, thing, hang, item, classOf. */
public final class ItemsTest {
    private static final int NONE = CopyRows.NONE;
    private static final int[] NO_ITEMS_OF_3 = {-1, 3, 4, 40, Integer.MIN_VALUE, Integer.MAX_VALUE};

    public static void main(String[] args) {
        set();
        thing();
        hang();
        item();
        classOf();
        Check.end();
    }

    private static void set() {
        Check c = new Check("promise 9");
        c.numbers(0, 1, 0, 0, 0);
        c.told("set(0, 2, MIN)", c.x.set(0, 2, Integer.MIN_VALUE), 0, 0);
        c.told("set(0, 2, 300)", c.x.set(0, 2, 300), Integer.MIN_VALUE, 0);
        c.holdsNumbers(0, 0, 0, 300);
        c.x.make(1, 0, 3);
        int[] given = {127, 128, 255, 256, -128, -129, Integer.MAX_VALUE, Integer.MIN_VALUE};
        int[] kept = {127, -128, -1, 0, -128, 127, -1, 0};
        int before = 0;
        for (int t = 0; t < given.length; t++) {
            c.told("set(1, 0, " + given[t] + ")", c.x.set(1, 0, given[t]), before, 0);
            before = kept[t];
        }
        c.holdsNumbers(1, 0, 0, 0);
        for (int k : NO_ITEMS_OF_3) {
            c.told("set(0, " + k + ", 7)", c.x.set(0, k, 7), 0, 3);
            c.told("set(1, " + k + ", 7)", c.x.set(1, k, 7), 0, 3);
        }
        c.holdsNumbers(0, 0, 0, 300);
        for (int kind = 2; kind <= 5; kind++) {
            c.x.make(2, kind, 1);
            c.told("set(2, 0, 7)", c.x.set(2, 0, 7), 0, 5);
            c.told("set(2, 9, 7)", c.x.set(2, 9, 7), 0, 5);
        }
        c.x.lump(3);
        c.told("set(3, 0, 7)", c.x.set(3, 0, 7), 0, 5);
        c.told("set(4, 0, 7)", c.x.set(4, 0, 7), 0, 1);
        c.told("set(4, -1, 7)", c.x.set(4, -1, 7), 0, 1);
    }

    private static void thing() {
        Check c = new Check("promise 10");
        boolean[][] fits = {{true, true, true}, {false, true, false}, {false, false, true}};
        for (int kind = 3; kind <= 5; kind++) {
            c.x.make(0, kind, 3);
            for (int cls = 0; cls <= 2; cls++) {
                boolean fit = fits[kind - 3][cls];
                c.told("thing(0, 2, -1, 5)", c.x.thing(0, 2, NONE, 5), 1, 0);
                c.told("thing(0, 2, cls, 5)", c.x.thing(0, 2, cls, 5), fit ? 1 : 0, fit ? 0 : 2);
                c.holdsThings(0, NONE, NONE, fit ? cls * 100 + 5 : NONE);
                for (int k : NO_ITEMS_OF_3) {
                    c.told("thing(0, " + k + ", cls, 6)", c.x.thing(0, k, cls, 6), 0, 3);
                }
            }
            c.told("thing(0, 3, -1, 6)", c.x.thing(0, 3, NONE, 6), 0, 3);
        }
        c.things(1, 4, 107);
        c.told("thing(1, 0, 2, 8)", c.x.thing(1, 0, 2, 8), 0, 2);
        c.holdsThings(1, 107);
        c.told("thing(1, 0, 1, MIN)", c.x.thing(1, 0, 1, Integer.MIN_VALUE), 1, 0);
        c.told("item(1, 0)", c.x.item(1, 0), Integer.MIN_VALUE, 0);
        for (int kind = 0; kind <= 2; kind++) {
            c.x.make(2, kind, 1);
            c.told("thing(2, 0, 0, 7)", c.x.thing(2, 0, 0, 7), 0, 5);
            c.told("thing(2, 5, -1, 7)", c.x.thing(2, 5, NONE, 7), 0, 5);
        }
        c.x.lump(3);
        c.told("thing(3, 0, 0, 7)", c.x.thing(3, 0, 0, 7), 0, 5);
        c.told("thing(4, 0, 0, 7)", c.x.thing(4, 0, 0, 7), 0, 1);
        newEachTime();
    }

    private static void newEachTime() {
        Check c = new Check("promise 10, a new THING");
        c.things(0, 3, 7);
        c.things(1, 3, 7);
        c.due("equal(0, 1)", c.x.equal(0, 1), 0);
        c.x.copy(2, 0);
        c.due("equal(0, 2)", c.x.equal(0, 2), 1);
        c.told("thing(0, 0, 0, 7)", c.x.thing(0, 0, 0, 7), 1, 0);
        c.due("equal(0, 2)", c.x.equal(0, 2), 0);
    }

    private static void hang() {
        Check c = new Check("promise 11");
        c.x.make(0, 2, 3);
        c.numbers(1, 1, 4, 5);
        c.told("hang(0, 1, 1)", c.x.hang(0, 1, 1), 1, 0);
        c.told("item(0, 1)", c.x.item(0, 1), 2, 0);
        c.due("held(1)", c.x.held(1), 2);
        c.told("hang(0, 0, 1)", c.x.hang(0, 0, 1), 1, 0);
        c.told("hang(0, 2, 1)", c.x.hang(0, 2, 1), 1, 0);
        c.told("set(1, 0, 6)", c.x.set(1, 0, 6), 4, 0);
        c.told("sum(0): the ROW itself hangs there", c.x.sum(0), 33, 0);
        c.told("hang(0, 1, 9): nothing", c.x.hang(0, 1, 9), 1, 0);
        c.told("item(0, 1)", c.x.item(0, 1), 0, 1);
        for (int k : NO_ITEMS_OF_3) {
            c.told("hang(0, " + k + ", 1)", c.x.hang(0, k, 1), 0, 3);
            c.told("hang(0, " + k + ", 9)", c.x.hang(0, k, 9), 0, 3);
        }
        for (int kind = 0; kind <= 5; kind++) {
            c.x.make(2, kind, 1);
            if (kind != 1) {
                c.told("hang(0, 0, 2)", c.x.hang(0, 0, 2), 0, 5);
                c.told("hang(0, 3, 2): 5 ahead of 3", c.x.hang(0, 3, 2), 0, 5);
            }
            if (kind != 2) {
                c.told("hang(2, 0, 1)", c.x.hang(2, 0, 1), 0, 5);
                c.told("hang(2, 0, 9)", c.x.hang(2, 0, 9), 0, 5);
            }
        }
        c.told("hang(0, 0, 0)", c.x.hang(0, 0, 0), 0, 5);
        c.x.lump(3);
        c.told("hang(3, 0, 1)", c.x.hang(3, 0, 1), 0, 5);
        c.told("hang(0, 0, 3)", c.x.hang(0, 0, 3), 0, 5);
        c.told("item(0, 0), which stays", c.x.item(0, 0), 2, 0);
        c.told("hang(4, 0, 3)", c.x.hang(4, 0, 3), 0, 1);
        c.told("hang(4, 0, 1)", c.x.hang(4, 0, 1), 0, 1);
        c.told("hang(4, 0, 4)", c.x.hang(4, 0, 4), 0, 1);
    }

    private static void item() {
        Check c = new Check("promise 12");
        c.numbers(0, 0, -128, 127, -1);
        c.numbers(1, 1, Integer.MIN_VALUE, Integer.MAX_VALUE, 0);
        c.holdsNumbers(0, -128, 127, -1);
        c.holdsNumbers(1, Integer.MIN_VALUE, Integer.MAX_VALUE, 0);
        c.things(2, 3, 11, NONE, 222);
        c.things(3, 4, NONE, 111, NONE);
        c.things(4, 5, 233, 234, NONE);
        c.holdsThings(2, 11, NONE, 222);
        c.holdsThings(3, NONE, 111, NONE);
        c.holdsThings(4, 233, 234, NONE);
        c.x.make(5, 2, 3);
        c.x.make(6, 1, 0);
        c.x.hang(5, 0, 1);
        c.x.hang(5, 1, 6);
        c.told("item(5, 0)", c.x.item(5, 0), 3, 0);
        c.told("item(5, 1): a ROW without ITEMS", c.x.item(5, 1), 0, 0);
        c.told("item(5, 2)", c.x.item(5, 2), 0, 1);
        for (int place = 0; place <= 5; place++) {
            for (int k : NO_ITEMS_OF_3) {
                c.told("item(" + place + ", " + k + ")", c.x.item(place, k), 0, 3);
            }
        }
        c.x.lump(7);
        c.told("item(7, 0)", c.x.item(7, 0), 0, 5);
        c.told("item(8, 0)", c.x.item(8, 0), 0, 1);
        c.told("item(8, -1)", c.x.item(8, -1), 0, 1);
    }

    private static void classOf() {
        Check c = new Check("promise 13");
        c.things(0, 3, 1, 102, 203);
        c.told("classOf(0, 0)", c.x.classOf(0, 0), 0, 0);
        c.told("classOf(0, 1)", c.x.classOf(0, 1), 1, 0);
        c.told("classOf(0, 2)", c.x.classOf(0, 2), 2, 0);
        for (int kind = 3; kind <= 5; kind++) {
            c.x.make(1, kind, 3);
            c.told("classOf(1, 2)", c.x.classOf(1, 2), NONE, 0);
            for (int k : NO_ITEMS_OF_3) {
                c.told("classOf(1, " + k + ")", c.x.classOf(1, k), 0, 3);
            }
        }
        for (int kind = 0; kind <= 2; kind++) {
            c.x.make(1, kind, 3);
            c.told("classOf(1, 0)", c.x.classOf(1, 0), 0, 5);
            c.told("classOf(1, 3)", c.x.classOf(1, 3), 0, 5);
        }
        c.x.lump(2);
        c.told("classOf(2, 0)", c.x.classOf(2, 0), 0, 5);
        c.told("classOf(3, 0)", c.x.classOf(3, 0), 0, 1);
    }
}
