/** Promises 21, 22 and 25: sum, mean, compare. */
public final class NumbersTest {
    private static final int MAX = Integer.MAX_VALUE, MIN = Integer.MIN_VALUE;

    public static void main(String[] args) {
        sum();
        mean();
        compare();
        Check.end();
    }

    private static void sum() {
        Check c = new Check("promise 21");
        c.numbers(0, 0, -128, -128, 127);
        c.told("sum(0)", c.x.sum(0), -129, 0);
        c.numbers(1, 1, MAX, 1, 5);
        c.told("sum(1)", c.x.sum(1), MIN + 5, 0);
        c.numbers(2, 1, 10, -3);
        c.x.make(3, 2, 3);
        c.x.hang(3, 0, 1);
        c.x.hang(3, 2, 2);
        c.told("sum(3): nothing at ITEM 1", c.x.sum(3), 0, 1);
        c.x.hang(3, 1, 2);
        c.told("sum(3)", c.x.sum(3), MIN + 19, 0);
        c.x.hang(3, 2, 9);
        c.told("sum(3): nothing at its end", c.x.sum(3), 0, 1);
        c.x.make(4, 2, 0);
        c.told("sum(4)", c.x.sum(4), 0, 0);
        c.x.make(4, 1, 0);
        c.told("sum(4)", c.x.sum(4), 0, 0);
        c.told("sum(9)", c.x.sum(9), 0, 1);
        c.x.lump(5);
        c.told("sum(5)", c.x.sum(5), 0, 5);
        for (int kind = 3; kind <= 5; kind++) {
            c.x.make(6, kind, 0);
            c.told("sum(6)", c.x.sum(6), 0, 5);
        }
    }

    private static void mean() {
        Check c = new Check("promise 22");
        c.numbers(0, 0, -128, -128, 127);
        c.told("mean(0)", c.x.mean(0), -43, 0);
        c.numbers(0, 1, -1, -1, -1, -4);
        c.told("mean(0), cut towards 0", c.x.mean(0), -1, 0);
        c.numbers(0, 1, 1, 1, 1, 4);
        c.told("mean(0)", c.x.mean(0), 1, 0);
        c.numbers(1, 1, MAX, 1);
        c.told("mean(1): of the wrapped sum", c.x.mean(1), MIN / 2, 0);
        c.numbers(1, 1, MIN);
        c.told("mean(1)", c.x.mean(1), MIN, 0);
        for (int kind = 0; kind <= 1; kind++) {
            c.x.make(2, kind, 0);
            c.told("mean(2)", c.x.mean(2), 0, 6);
        }
        for (int kind = 2; kind <= 5; kind++) {
            c.x.make(2, kind, 0);
            c.told("mean(2)", c.x.mean(2), 0, 5);
            c.x.make(2, kind, 1);
            c.told("mean(2)", c.x.mean(2), 0, 5);
        }
        c.told("mean(9)", c.x.mean(9), 0, 1);
        c.x.lump(3);
        c.told("mean(3)", c.x.mean(3), 0, 5);
    }

    private static void compare() {
        Check c = new Check("promise 25");
        c.numbers(0, 1, 1, 2, 3);
        c.numbers(1, 1, 1, 2, 3);
        both(c, 0, 1, 0);
        both(c, 0, 0, 0);
        c.numbers(1, 1, 1, 3);
        both(c, 0, 1, -1);
        c.numbers(1, 1, 1, 2);
        both(c, 0, 1, 1);
        c.numbers(1, 1, MIN, 9, 9);
        both(c, 0, 1, 1);
        c.numbers(2, 1, MAX);
        both(c, 1, 2, -1);
        c.x.make(3, 1, 0);
        c.x.make(4, 1, 0);
        both(c, 3, 2, -1);
        both(c, 3, 4, 0);
        c.numbers(5, 0, -1, 5);
        c.numbers(6, 0, 1, 4);
        both(c, 5, 6, -1);
        c.x.make(7, 0, 0);
        both(c, 7, 5, -1);
        refused(c);
    }

    private static void refused(Check c) {
        c.told("compare of INTS and BYTES", c.x.compare(3, 7), 0, 5);
        c.told("compare of BYTES and INTS", c.x.compare(7, 3), 0, 5);
        c.x.lump(8);
        c.told("compare(8, 8)", c.x.compare(8, 8), 0, 5);
        c.told("compare(0, 8)", c.x.compare(0, 8), 0, 5);
        c.told("compare(8, 0)", c.x.compare(8, 0), 0, 5);
        c.told("compare(8, 9)", c.x.compare(8, 9), 0, 1);
        c.told("compare(9, 8)", c.x.compare(9, 8), 0, 1);
        c.told("compare(9, 9)", c.x.compare(9, 9), 0, 1);
        for (int kind = 2; kind <= 5; kind++) {
            c.x.make(10, kind, 1);
            c.told("compare(10, 10)", c.x.compare(10, 10), 0, 5);
            c.told("compare(10, 0)", c.x.compare(10, 0), 0, 5);
            c.told("compare(0, 10)", c.x.compare(0, 10), 0, 5);
            c.told("compare(10, 9)", c.x.compare(10, 9), 0, 1);
        }
    }

    private static void both(Check c, int a, int b, int due) {
        c.told("compare(" + a + ", " + b + ")", c.x.compare(a, b), due, 0);
        c.told("compare(" + b + ", " + a + ")", c.x.compare(b, a), -due, 0);
    }
}
