/** Promises 16 to 18: copy, slice, join. */
public final class NewRowsTest {
    private static final int NONE = CopyRows.NONE, MAX = Integer.MAX_VALUE, MIN = Integer.MIN_VALUE;

    public static void main(String[] args) {
        copy();
        slice();
        join();
        joinRefused();
        Check.end();
    }

    private static void copy() {
        Check c = new Check("promise 16");
        c.numbers(0, 0, -1, 2);
        c.told("copy(1, 0)", c.x.copy(1, 0), 2, 0);
        c.due("kind(1)", c.x.kind(1), 0);
        c.due("same(0, 1)", c.x.same(0, 1), 0);
        c.told("set(1, 0, 9)", c.x.set(1, 0, 9), -1, 0);
        c.holdsNumbers(0, -1, 2);
        c.holdsNumbers(1, 9, 2);
        c.things(2, 4, 101, NONE);
        c.told("copy(3, 2)", c.x.copy(3, 2), 2, 0);
        c.due("kind(3)", c.x.kind(3), 4);
        c.due("equal(2, 3)", c.x.equal(2, 3), 1);
        c.x.thing(3, 1, 1, 5);
        c.holdsThings(2, 101, NONE);
        c.numbers(4, 1, 7);
        c.x.make(5, 2, 1);
        c.x.hang(5, 0, 4);
        c.told("copy(6, 5)", c.x.copy(6, 5), 1, 0);
        c.x.set(4, 0, 8);
        c.told("sum(6): the ROWS in it are the same", c.x.sum(6), 8, 0);
        c.x.share(7, 0);
        c.told("copy(0, 0)", c.x.copy(0, 0), 2, 0);
        c.due("same(0, 7)", c.x.same(0, 7), 0);
        c.due("equal(0, 7)", c.x.equal(0, 7), 1);
        c.told("copy(0, 9)", c.x.copy(0, 9), 0, 1);
        c.x.lump(8);
        c.told("copy(0, 8)", c.x.copy(0, 8), 0, 5);
        c.holdsNumbers(0, -1, 2);
        c.x.make(8, 5, 0);
        c.told("copy(0, 8)", c.x.copy(0, 8), 0, 0);
        c.due("kind(0)", c.x.kind(0), 5);
    }

    private static void slice() {
        Check c = new Check("promise 17");
        c.numbers(0, 1, 1, 2, 3, 4);
        c.told("slice(1, 0, 1, 2)", c.x.slice(1, 0, 1, 2), 2, 0);
        c.holdsNumbers(1, 2, 3);
        c.due("kind(1)", c.x.kind(1), 1);
        c.told("set(1, 0, 9)", c.x.set(1, 0, 9), 2, 0);
        c.holdsNumbers(0, 1, 2, 3, 4);
        c.told("slice(1, 0, 0, 4)", c.x.slice(1, 0, 0, 4), 4, 0);
        c.due("same(0, 1)", c.x.same(0, 1), 0);
        int[][] wrong = {
            {-1, 1, 3}, {-1, 0, 3}, {5, 0, 3}, {4, 1, 3}, {0, 5, 3}, {1, 4, 3}, {MAX, MAX, 3}, {1, MAX, 3}, {MAX, 1, 3},
            {MIN, 0, 3}, {0, -1, 4}, {-1, -1, 4}, {9, -1, 4}, {0, MIN, 4}, {MIN, MIN, 4}};
        for (int[] w : wrong) {
            c.told("slice(1, 0, " + w[0] + ", " + w[1] + ")", c.x.slice(1, 0, w[0], w[1]), 0, w[2]);
        }
        c.holdsNumbers(1, 1, 2, 3, 4);
        c.told("slice(1, 0, 4, 0)", c.x.slice(1, 0, 4, 0), 0, 0);
        c.holdsNumbers(1);
        c.told("slice(0, 0, 2, 2)", c.x.slice(0, 0, 2, 2), 2, 0);
        c.holdsNumbers(0, 3, 4);
        c.told("slice(0, 9, 0, -1)", c.x.slice(0, 9, 0, -1), 0, 1);
        c.x.lump(2);
        c.told("slice(0, 2, 0, -1)", c.x.slice(0, 2, 0, -1), 0, 5);
        c.told("slice(0, 2, 0, 0)", c.x.slice(0, 2, 0, 0), 0, 5);
        c.holdsNumbers(0, 3, 4);
        c.things(3, 5, 201, NONE, 203);
        c.told("slice(4, 3, 1, 2)", c.x.slice(4, 3, 1, 2), 2, 0);
        c.holdsThings(4, NONE, 203);
        c.due("kind(4)", c.x.kind(4), 5);
        c.told("slice(5, 3, 1, 2)", c.x.slice(5, 3, 1, 2), 2, 0);
        c.due("equal(4, 5): ITEMS themselves are the same", c.x.equal(4, 5), 1);
    }

    private static void join() {
        Check c = new Check("promise 18");
        c.numbers(0, 1, 1, 2);
        c.numbers(1, 1, 3);
        c.told("join(2, 0, 1)", c.x.join(2, 0, 1), 3, 0);
        c.holdsNumbers(2, 1, 2, 3);
        c.due("kind(2)", c.x.kind(2), 1);
        c.told("join(0, 1, 0)", c.x.join(0, 1, 0), 3, 0);
        c.holdsNumbers(0, 3, 1, 2);
        c.told("join(0, 0, 0)", c.x.join(0, 0, 0), 6, 0);
        c.holdsNumbers(0, 3, 1, 2, 3, 1, 2);
        c.numbers(3, 0, -7);
        c.told("join(3, 3, 3)", c.x.join(3, 3, 3), 2, 0);
        c.holdsNumbers(3, -7, -7);
        c.things(4, 3, 101, NONE, 102);
        c.things(5, 4, 103);
        c.told("join(6, 5, 4)", c.x.join(6, 5, 4), 4, 0);
        c.due("kind(6)", c.x.kind(6), 4);
        c.holdsThings(6, 103, 101, NONE, 102);
        c.told("join(6, 4, 5)", c.x.join(6, 4, 5), 4, 0);
        c.due("kind(6)", c.x.kind(6), 3);
        c.holdsThings(6, 101, NONE, 102, 103);
        c.x.make(7, 2, 1);
        c.x.hang(7, 0, 1);
        c.x.make(8, 5, 2);
        c.told("join(9, 7, 8): nothing fits into TABLES", c.x.join(9, 7, 8), 3, 0);
        c.due("kind(9)", c.x.kind(9), 2);
        c.told("item(9, 0)", c.x.item(9, 0), 1, 0);
        c.x.make(8, 1, 0);
        c.told("join(9, 8, 8)", c.x.join(9, 8, 8), 0, 0);
        c.holdsNumbers(9);
    }

    private static void joinRefused() {
        Check c = new Check("promise 18, refused");
        c.numbers(0, 1, 1, 2);
        c.x.make(1, 1, 40);
        c.x.make(2, 1, 0);
        c.x.make(3, 0, 0);
        c.x.make(4, 0, 40);
        c.x.lump(5);
        c.told("join(0, 0, 9)", c.x.join(0, 0, 9), 0, 1);
        c.told("join(0, 9, 0)", c.x.join(0, 9, 0), 0, 1);
        c.told("join(0, 5, 9)", c.x.join(0, 5, 9), 0, 1);
        c.told("join(0, 9, 5)", c.x.join(0, 9, 5), 0, 1);
        c.told("join(0, 0, 5)", c.x.join(0, 0, 5), 0, 5);
        c.told("join(0, 5, 0)", c.x.join(0, 5, 0), 0, 5);
        c.told("join(0, 1, 5)", c.x.join(0, 1, 5), 0, 5);
        c.told("join(0, 1, 0)", c.x.join(0, 1, 0), 0, 3);
        c.told("join(0, 0, 4): 3 ahead of 2", c.x.join(0, 0, 4), 0, 3);
        c.told("join(0, 0, 3): other numbers, none of them", c.x.join(0, 0, 3), 0, 2);
        c.told("join(0, 3, 0)", c.x.join(0, 3, 0), 0, 2);
        c.holdsNumbers(0, 1, 2);
        c.told("join(6, 1, 2)", c.x.join(6, 1, 2), 40, 0);
        c.told("join(6, 2, 1)", c.x.join(6, 2, 1), 40, 0);
        c.things(7, 4, 101);
        c.things(8, 3, 102, 203);
        c.told("join(7, 7, 8)", c.x.join(7, 7, 8), 0, 2);
        c.holdsThings(7, 101);
        c.told("join(7, 7, 0)", c.x.join(7, 7, 0), 0, 2);
        c.told("join(7, 0, 7)", c.x.join(7, 0, 7), 0, 2);
        c.x.make(10, 2, 1);
        c.told("join(7, 10, 8)", c.x.join(7, 10, 8), 0, 2);
        c.x.hang(10, 0, 0);
        c.told("join(7, 8, 10)", c.x.join(7, 8, 10), 0, 2);
        c.holdsThings(7, 101);
    }
}
