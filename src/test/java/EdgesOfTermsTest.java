/** The sentences of "Terms" that name an edge: each has a test here that is named by the sentence. */
public final class EdgesOfTermsTest {
    private static final int NONE = CopyRows.NONE, MAX = Integer.MAX_VALUE, MIN = Integer.MIN_VALUE;

    public static void main(String[] args) {
        placesAtFirst();
        twelvePlaces();
        severalHoldOne();
        lumpIsNoRow();
        bytes();
        ints();
        tables();
        classes();
        lengths();
        lengthStays();
        itemsAtFirst();
        lastPromisedCall();
        Check.end();
    }

    private static void placesAtFirst() {
        Check c = new Check("\"PLACES 0 to 11 hold NOTHING at first.\"");
        for (int p = 0; p <= 11; p++) {
            c.due("kind(" + p + ")", c.x.kind(p), NONE);
            c.told("length(" + p + ")", c.x.length(p), 0, 1);
            c.due("held(" + p + ")", c.x.held(p), 0);
            c.due("same(0, " + p + ")", c.x.same(0, p), 1);
            c.due("nothing(" + p + ")", c.x.nothing(p), NONE);
        }
    }

    private static void twelvePlaces() {
        Check c = new Check("PLACES 0 to 11, each by itself");
        for (int p = 0; p <= 11; p++) {
            c.told("make(" + p + ", 1, 1)", c.x.make(p, 1, 1), 1, 0);
            c.told("set(" + p + ", 0, ..)", c.x.set(p, 0, 100 + p), 0, 0);
        }
        for (int p = 0; p <= 11; p++) {
            c.told("item(" + p + ", 0)", c.x.item(p, 0), 100 + p, 0);
            c.due("held(" + p + ")", c.x.held(p), 1);
        }
    }

    private static void severalHoldOne() {
        Check c = new Check("\"several may hold the same one\"");
        c.numbers(0, 1, 7);
        for (int p = 1; p <= 11; p++) {
            c.due("share(" + p + ", 0)", c.x.share(p, p - 1), 1);
        }
        c.due("held(0): all PLACES", c.x.held(0), 12);
        c.told("set(11, 0, 8)", c.x.set(11, 0, 8), 7, 0);
        for (int p = 0; p <= 11; p++) {
            c.told("item(" + p + ", 0)", c.x.item(p, 0), 8, 0);
        }
        c.x.lump(0);
        for (int p = 1; p <= 11; p++) {
            c.due("share(" + p + ", 0)", c.x.share(p, 0), 6);
        }
        c.due("held(11): a LUMP in all PLACES", c.x.held(11), 12);
    }

    private static void lumpIsNoRow() {
        Check c = new Check("\"a LUMP (a THING that is no ROW)\"");
        c.due("lump(0)", c.x.lump(0), 1);
        c.told("length(0)", c.x.length(0), 0, 5);
        c.told("item(0, 0)", c.x.item(0, 0), 0, 5);
        c.x.make(1, 3, 1);
        c.told("move(0, 0, 1, 0, 0)", c.x.move(0, 0, 1, 0, 0), 0, 2);
        c.told("move(1, 0, 0, 0, 0)", c.x.move(1, 0, 0, 0, 0), 0, 2);
        c.told("hang: no ITEM of TABLES", c.x.make(2, 2, 1), 1, 0);
        c.told("hang(2, 0, 0)", c.x.hang(2, 0, 0), 0, 5);
    }

    private static void bytes() {
        Check c = new Check("\"0 BYTES (-128 to 127)\"");
        c.x.make(0, 0, 1);
        int[][] edges = {
            {-128, -128}, {127, 127}, {-129, 127}, {128, -128}, {0, 0}, {-1, -1}, {255, -1}, {256, 0}, {257, 1},
            {-256, 0}, {-255, 1}, {383, 127}, {384, -128}, {MAX, -1}, {MIN, 0}, {MIN + 127, 127}, {MIN + 128, -128}};
        for (int[] edge : edges) {
            c.x.set(0, 0, edge[0]);
            c.told("item(0, 0) after set(0, 0, " + edge[0] + ")", c.x.item(0, 0), edge[1], 0);
        }
        for (int from = -400; from <= 400; from += 200) {
            Check all = new Check("BYTES, each number");
            all.x.make(0, 0, 1);
            for (int v = from; v < from + 200; v++) {
                all.x.set(0, 0, v);
                all.due("sum(0) after set(0, 0, " + v + ")", all.x.sum(0), Math.floorMod(v + 128, 256) - 128);
            }
        }
    }

    private static void ints() {
        Check c = new Check("\"1 INTS\": all of 32 bits");
        int[] edges = {MIN, MIN + 1, -129, -128, -1, 0, 127, 128, 255, 256, 65536, MAX - 1, MAX};
        c.numbers(0, 1, edges);
        c.holdsNumbers(0, edges);
    }

    private static void tables() {
        Check c = new Check("\"2 TABLES (of INTS ROWS, or nothing)\"");
        c.x.make(0, 2, 2);
        c.x.make(1, 1, 0);
        c.told("hang(0, 0, 1): an INTS ROW without ITEMS", c.x.hang(0, 0, 1), 1, 0);
        c.told("hang(0, 1, 9): nothing", c.x.hang(0, 1, 9), 1, 0);
        c.told("item(0, 0)", c.x.item(0, 0), 0, 0);
        c.told("item(0, 1)", c.x.item(0, 1), 0, 1);
        for (int kind = 0; kind <= 5; kind++) {
            if (kind != 1) {
                c.x.make(2, kind, 1);
                c.told("hang of KIND " + kind, c.x.hang(0, 0, 2), 0, 5);
            }
        }
        c.due("held(1)", c.x.held(1), 2);
    }

    private static void classes() {
        Check c = new Check("\"LEAVES hold LEAFS alone, NODES NODES alone, THINGS any of them.\"");
        String[] names = {"THINGS", "LEAVES", "NODES"};
        for (int kind = 3; kind <= 5; kind++) {
            c.x.make(0, kind, 1);
            for (int cls = 0; cls <= 2; cls++) {
                boolean fits = kind == 3 || cls == kind - 3;
                String what = "a THING of CLASS " + cls + " into " + names[kind - 3];
                c.x.thing(0, 0, NONE, 0);
                c.told(what, c.x.thing(0, 0, cls, 9), fits ? 1 : 0, fits ? 0 : 2);
                c.told("classOf(0, 0), " + what, c.x.classOf(0, 0), fits ? cls : NONE, 0);
            }
            c.told("nothing into " + names[kind - 3], c.x.thing(0, 0, NONE, 9), 1, 0);
            c.told("classOf(0, 0)", c.x.classOf(0, 0), NONE, 0);
        }
    }

    private static void lengths() {
        for (int kind = 0; kind <= 5; kind++) {
            Check c = new Check("\"A ROW has 0 to 40 ITEMS, from 0 on\"");
            int[] edges = {0, 1, 39, 40};
            for (int n : edges) {
                c.told("make(0, " + kind + ", " + n + ")", c.x.make(0, kind, n), n, 0);
                c.told("length(0)", c.x.length(0), n, 0);
                c.told("item(0, -1)", c.x.item(0, -1), 0, 3);
                int there = kind <= 1 ? 0 : 1;
                c.told("item(0, 0) of " + n, c.x.item(0, 0), 0, n == 0 ? 3 : there);
                c.told("item(0, n - 1) of " + n, c.x.item(0, n - 1), 0, n == 0 ? 3 : there);
                c.told("item(0, n) of " + n, c.x.item(0, n), 0, 3);
            }
            c.told("make(0, " + kind + ", 41)", c.x.make(0, kind, 41), CopyRows.OUTSIDE, 3);
            c.told("length(0)", c.x.length(0), 40, 0);
        }
    }

    private static void lengthStays() {
        Check c = new Check("\"its length stays\"");
        c.numbers(0, 1, 0, 1, 2);
        c.x.share(1, 0);
        c.x.set(0, 2, 1);
        c.x.move(0, 0, 0, 1, 2);
        c.x.loop(0, 0, 0, 0, 99);
        c.x.update(0, 0, 0);
        c.x.rotate(0, 2);
        c.told("length(0) after changes", c.x.length(0), 3, 0);
        c.told("slice(0, 0, 0, 1)", c.x.slice(0, 0, 0, 1), 1, 0);
        c.told("join(2, 1, 1)", c.x.join(2, 1, 1), 6, 0);
        c.told("length(1) after a slice and a join", c.x.length(1), 3, 0);
        c.x.make(0, 1, 40);
        c.told("length(1) after make(0, ..)", c.x.length(1), 3, 0);
    }

    private static void itemsAtFirst() {
        for (int kind = 0; kind <= 5; kind++) {
            Check c = new Check("\"At first ITEMS are 0, or nothing.\"");
            c.x.make(0, kind, 40);
            for (int k = 0; k < 40; k++) {
                c.told("item(0, " + k + ") of KIND " + kind, c.x.item(0, k), 0, kind <= 1 ? 0 : 1);
                c.told("classOf(0, " + k + ")", c.x.classOf(0, k), kind >= 3 ? NONE : 0, kind >= 3 ? 0 : 5);
            }
        }
        Check c = new Check("ITEMS of a ROW made where one was");
        c.numbers(0, 1, 5);
        c.x.make(0, 1, 1);
        c.holdsNumbers(0, 0);
        c.things(0, 4, 105);
        c.x.make(0, 4, 1);
        c.holdsThings(0, NONE);
    }

    private static void lastPromisedCall() {
        Check c = new Check("\"An object is used for at most 512 calls\"");
        for (int call = 1; call <= 511; call++) {
            c.due("make as call " + call, c.x.make(call % 12, call % 6, call % 41), call % 41);
        }
        c.due("length as call 512", c.x.length(511 % 12), 511 % 41);
    }
}
