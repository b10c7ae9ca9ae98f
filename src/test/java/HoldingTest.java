/** Promises 23, 24 and 26: same, equal, held. */
public final class HoldingTest {
    private static final int NONE = CopyRows.NONE;

    public static void main(String[] args) {
        same();
        equalNumbers();
        equalParts();
        held();
        Check.end();
    }

    private static void same() {
        Check c = new Check("promise 23");
        c.due("same(0, 1): both NOTHING", c.x.same(0, 1), 1);
        c.x.make(0, 1, 0);
        c.due("same(0, 1)", c.x.same(0, 1), 0);
        c.due("same(1, 0)", c.x.same(1, 0), 0);
        c.due("same(0, 0)", c.x.same(0, 0), 1);
        c.x.make(1, 1, 0);
        c.due("same(0, 1): two ROWS", c.x.same(0, 1), 0);
        c.x.share(1, 0);
        c.due("same(0, 1)", c.x.same(0, 1), 1);
        c.x.lump(2);
        c.x.lump(3);
        c.due("same(2, 3)", c.x.same(2, 3), 0);
        c.x.share(3, 2);
        c.due("same(2, 3)", c.x.same(2, 3), 1);
    }

    private static void equalNumbers() {
        Check c = new Check("promise 24, numbers");
        both(c, 0, 1, 1);
        c.numbers(0, 1, 1, 2);
        both(c, 0, 1, 0);
        c.numbers(1, 1, 1, 2);
        both(c, 0, 1, 1);
        c.numbers(1, 0, 1, 2);
        both(c, 0, 1, 0);
        c.numbers(1, 1, 1, 3);
        both(c, 0, 1, 0);
        c.numbers(1, 1, 1);
        both(c, 0, 1, 0);
        c.numbers(1, 1, 1, 2, 3);
        both(c, 0, 1, 0);
        c.numbers(1, 0, 5, -5);
        c.numbers(2, 0, 5, 251);
        both(c, 1, 2, 1);
        for (int kind = 0; kind <= 5; kind++) {
            c.x.make(kind, kind, 0);
        }
        c.x.lump(6);
        c.x.lump(7);
        for (int a = 0; a <= 8; a++) {
            for (int b = 0; b <= 8; b++) {
                c.due("equal(" + a + ", " + b + ")", c.x.equal(a, b), a == b ? 1 : 0);
            }
        }
        for (int kind = 0; kind <= 5; kind++) {
            c.x.make(8, kind, 0);
            both(c, kind, 8, 1);
        }
        c.x.share(7, 6);
        both(c, 6, 7, 1);
    }

    private static void equalParts() {
        Check c = new Check("promise 24, THINGS and TABLES");
        c.things(0, 3, 101, NONE, 103);
        c.x.copy(1, 0);
        both(c, 0, 1, 1);
        c.x.thing(1, 2, 1, 3);
        both(c, 0, 1, 0);
        c.x.move(0, 0, 1, 0, 3);
        both(c, 0, 1, 1);
        c.x.make(2, 4, 3);
        c.x.move(0, 0, 2, 0, 3);
        both(c, 0, 2, 0);
        c.x.thing(1, 0, NONE, 0);
        both(c, 0, 1, 0);
        c.numbers(3, 1, 5);
        c.numbers(4, 1, 5);
        c.x.make(5, 2, 2);
        c.x.make(6, 2, 2);
        both(c, 5, 6, 1);
        c.x.hang(5, 1, 3);
        both(c, 5, 6, 0);
        c.x.hang(6, 1, 4);
        both(c, 5, 6, 0);
        c.x.hang(6, 1, 3);
        both(c, 5, 6, 1);
    }

    private static void both(Check c, int a, int b, int due) {
        c.due("equal(" + a + ", " + b + ")", c.x.equal(a, b), due);
        c.due("equal(" + b + ", " + a + ")", c.x.equal(b, a), due);
    }

    private static void held() {
        Check c = new Check("promise 26");
        c.due("held(0)", c.x.held(0), 0);
        c.x.make(11, 1, 1);
        c.due("held(11)", c.x.held(11), 1);
        c.x.share(0, 11);
        c.due("held(11)", c.x.held(11), 2);
        c.due("held(0)", c.x.held(0), 2);
        c.x.make(1, 2, 4);
        c.x.hang(1, 0, 0);
        c.x.hang(1, 3, 0);
        c.due("held(0)", c.x.held(0), 4);
        c.x.share(10, 1);
        c.x.share(5, 1);
        c.due("held(0): TABLES in three PLACES count once", c.x.held(0), 4);
        c.due("held(1)", c.x.held(1), 3);
        c.x.copy(2, 1);
        c.due("held(0)", c.x.held(0), 6);
        c.x.nothing(1);
        c.due("held(0)", c.x.held(0), 6);
        c.x.nothing(5);
        c.x.nothing(10);
        c.due("held(0): TABLES that no PLACE holds do not count", c.x.held(0), 4);
        c.x.nothing(0);
        c.due("held(11)", c.x.held(11), 3);
        c.x.make(3, 1, 1);
        c.due("held(3)", c.x.held(3), 1);
        c.x.lump(4);
        c.x.share(6, 4);
        c.x.lump(7);
        c.due("held(4)", c.x.held(4), 2);
        c.due("held(7)", c.x.held(7), 1);
        c.due("held(8)", c.x.held(8), 0);
    }
}
