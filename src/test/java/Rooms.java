/** An object whose PLACES hold one of everything, and all that can be seen of it. */
final class Rooms {
    /** PLACES 0 to 5 hold ROWS of KINDS 0 to 5. */
    static final int LUMP = 6, NOTHING = 7, FULL = 8, EMPTY = 9, SAME_INTS = 10, EMPTY_TABLES = 11;

    /** CODE is 6 then: no call that is refused for another reason tells it by chance. */
    static void furnish(CopyRows x) {
        x.make(0, 0, 3);
        x.set(0, 0, -128);
        x.set(0, 1, 127);
        x.make(1, 1, 3);
        x.set(1, 0, 2);
        x.set(1, 1, 99);
        x.make(2, 2, 3);
        x.hang(2, 0, 1);
        x.hang(2, 2, 1);
        x.make(3, 3, 3);
        x.thing(3, 0, 1, 22);
        x.thing(3, 1, 0, 11);
        x.thing(3, 2, 2, 33);
        x.make(4, 4, 3);
        x.thing(4, 0, 1, 44);
        x.thing(4, 2, 1, 45);
        x.make(5, 5, 2);
        x.thing(5, 0, 2, 55);
        x.lump(LUMP);
        x.make(FULL, 1, 40);
        x.set(FULL, 39, 7);
        x.make(EMPTY, 1, 0);
        x.share(SAME_INTS, 1);
        x.make(EMPTY_TABLES, 2, 0);
        x.rotate(EMPTY, 1);
    }

    /** Some 300 calls: an object can be looked at once. */
    static String seen(CopyRows x) {
        StringBuilder all = new StringBuilder();
        for (int p = 0; p < 12; p++) {
            int length = x.length(p);
            all.append(p).append(": ").append(x.kind(p)).append(' ').append(length).append(' ').append(x.held(p));
            for (int k = 0; k < length; k++) {
                all.append(' ').append(x.item(p, k));
                if (x.kind(p) >= 3) {
                    all.append('/').append(x.classOf(p, k));
                }
            }
            for (int q = 0; q < p; q++) {
                all.append(x.same(p, q) == 1 ? 's' : x.equal(p, q) == 1 ? 'e' : '-');
            }
            all.append('\n');
        }
        return all.toString();
    }

    private Rooms() {
    }
}
