/** Promises 19 and 20: update, rotate. */
public final class ChangesTest {
    private static final int NONE = CopyRows.NONE, MAX = Integer.MAX_VALUE, MIN = Integer.MIN_VALUE;

    public static void main(String[] args) {
        update();
        updateShared();
        updateRefused();
        rotate();
        Check.end();
    }

    private static void update() {
        Check c = new Check("promise 19");
        c.numbers(0, 1, 1, 2, 3);
        c.numbers(1, 1, 2, 0);
        c.numbers(2, 1, 10, 20, 30, 40);
        c.told("update(0, 1, 2)", c.x.update(0, 1, 2), 2, 0);
        c.holdsNumbers(0, 10, 2, 30);
        c.holdsNumbers(1, 2, 0);
        c.holdsNumbers(2, 10, 20, 30, 40);
        int[] wrong = {3, 4, -1, MIN, MAX};
        for (int k : wrong) {
            c.numbers(0, 1, 1, 2, 3);
            c.numbers(1, 1, 1, k, 0);
            c.told("update(0, 1, 2) at " + k, c.x.update(0, 1, 2), 1, 3);
            c.holdsNumbers(0, 1, 20, 3);
        }
        c.numbers(0, 1, 1, 2, 3, 4, 5);
        c.numbers(1, 1, 3, 4, 0);
        c.told("update: none of the values", c.x.update(0, 1, 2), 1, 3);
        c.holdsNumbers(0, 1, 2, 3, 40, 5);
        c.x.make(1, 1, 0);
        c.told("update: no indexes", c.x.update(0, 1, 2), 0, 0);
    }

    private static void updateShared() {
        Check c = new Check("promise 19, the same ROW");
        c.numbers(0, 1, 1, 0, 2);
        c.numbers(1, 1, 2, 2, 0);
        c.told("update(0, 0, 1)", c.x.update(0, 0, 1), 3, 0);
        c.holdsNumbers(0, 2, 2, 0);
        c.numbers(2, 1, 1, 0);
        c.numbers(3, 1, 5, 7);
        c.told("update(2, 2, 3): by then 7 is no ITEM's", c.x.update(2, 2, 3), 1, 3);
        c.holdsNumbers(2, 1, 7);
        c.numbers(4, 1, 1, 0);
        c.told("update(4, 4, 4)", c.x.update(4, 4, 4), 2, 0);
        c.holdsNumbers(4, 1, 0);
    }

    private static void updateRefused() {
        Check c = new Check("promise 19, refused");
        c.numbers(0, 1, 0);
        c.x.lump(8);
        for (int kind = 0; kind <= 5; kind++) {
            c.x.make(1 + kind, kind, 1);
        }
        for (int bad = 1; bad <= 8; bad++) {
            int code = bad == 2 ? 0 : bad == 7 ? 1 : 5;
            int done = bad == 2 ? 1 : 0;
            c.told("update(" + bad + ", 0, 0)", c.x.update(bad, 0, 0), done, code);
            c.told("update(0, " + bad + ", 0)", c.x.update(0, bad, 0), done, code);
            c.told("update(0, 0, " + bad + ")", c.x.update(0, 0, bad), done, code);
            c.told("update(" + bad + ", 9, 0)", c.x.update(bad, 9, 0), 0, 1);
            c.told("update(" + bad + ", 0, 9)", c.x.update(bad, 0, 9), 0, 1);
            c.told("update(9, 0, " + bad + ")", c.x.update(9, 0, bad), 0, 1);
        }
        c.numbers(0, 1, 9);
        c.told("update(0, 0, 8): 5 ahead of 3", c.x.update(0, 0, 8), 0, 5);
    }

    private static void rotate() {
        Check c = new Check("promise 20");
        c.numbers(0, 1, 1, 2, 3, 4, 5);
        c.x.share(1, 0);
        c.told("rotate(0, 2)", c.x.rotate(0, 2), 2, 0);
        c.holdsNumbers(1, 4, 5, 1, 2, 3);
        c.told("rotate(0, -2)", c.x.rotate(0, -2), 3, 0);
        c.holdsNumbers(0, 1, 2, 3, 4, 5);
        c.told("rotate(0, 0)", c.x.rotate(0, 0), 0, 0);
        c.told("rotate(0, 5)", c.x.rotate(0, 5), 0, 0);
        c.told("rotate(0, -5)", c.x.rotate(0, -5), 0, 0);
        c.holdsNumbers(0, 1, 2, 3, 4, 5);
        c.told("rotate(0, MAX)", c.x.rotate(0, MAX), 2, 0);
        c.holdsNumbers(0, 4, 5, 1, 2, 3);
        c.told("rotate(0, MIN)", c.x.rotate(0, MIN), 2, 0);
        c.holdsNumbers(0, 2, 3, 4, 5, 1);
        c.due("same(0, 1)", c.x.same(0, 1), 1);
        c.things(2, 4, 101, NONE, 103);
        c.told("rotate(2, 1)", c.x.rotate(2, 1), 1, 0);
        c.holdsThings(2, 103, 101, NONE);
        c.numbers(3, 0, -3);
        c.told("rotate(3, -7)", c.x.rotate(3, -7), 0, 0);
        c.holdsNumbers(3, -3);
        c.x.make(4, 2, 2);
        c.x.hang(4, 0, 0);
        c.told("rotate(4, -1)", c.x.rotate(4, -1), 1, 0);
        c.told("item(4, 1)", c.x.item(4, 1), 5, 0);
        c.told("item(4, 0)", c.x.item(4, 0), 0, 1);
        c.told("rotate(9, 1)", c.x.rotate(9, 1), 0, 1);
        c.x.lump(5);
        c.told("rotate(5, 1)", c.x.rotate(5, 1), 0, 5);
        for (int kind = 0; kind <= 5; kind++) {
            c.x.make(6, kind, 0);
            c.told("rotate(6, 1)", c.x.rotate(6, 1), 0, 6);
            c.told("rotate(6, 0)", c.x.rotate(6, 0), 0, 6);
        }
    }
}
