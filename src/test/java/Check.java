/** Counts the answers that are not as due; one object of CopyRows stands behind each. */
final class Check {
    final CopyRows x = new CopyRows();
    private final String about;
    private static int wrong = 0;
    private static int asked = 0;

    Check(String about) {
        this.about = about;
    }

    void due(String what, int got, int want) {
        asked++;
        if (got != want) {
            wrong++;
            System.out.println(about + ": " + what + " answered " + got + ", due is " + want);
        }
    }

    /** For calls that tell a CODE: the answer, and the CODE right behind it. */
    void told(String what, int got, int want, int wantCode) {
        due(what, got, want);
        due("code() after " + what, x.code(), wantCode);
    }

    /** A new ROW of BYTES or INTS with these numbers. */
    void numbers(int place, int kind, int... values) {
        due("make", x.make(place, kind, values.length), values.length);
        for (int k = 0; k < values.length; k++) {
            due("set", x.set(place, k, values[k]), 0);
        }
    }

    void holdsNumbers(int place, int... values) {
        told("length of place " + place, x.length(place), values.length, 0);
        for (int k = 0; k < values.length; k++) {
            told("item(" + place + ", " + k + ")", x.item(place, k), values[k], 0);
        }
    }

    /** A new ROW of THINGS, LEAVES or NODES; each THING as class * 100 + a number below 100, NONE for nothing. */
    void things(int place, int kind, int... marks) {
        due("make", x.make(place, kind, marks.length), marks.length);
        for (int k = 0; k < marks.length; k++) {
            int cls = marks[k] == CopyRows.NONE ? CopyRows.NONE : marks[k] / 100;
            told("thing", x.thing(place, k, cls, marks[k] % 100), 1, 0);
        }
    }

    void holdsThings(int place, int... marks) {
        told("length of place " + place, x.length(place), marks.length, 0);
        for (int k = 0; k < marks.length; k++) {
            boolean none = marks[k] == CopyRows.NONE;
            String which = "(" + place + ", " + k + ")";
            told("classOf" + which, x.classOf(place, k), none ? CopyRows.NONE : marks[k] / 100, 0);
            told("item" + which, x.item(place, k), none ? 0 : marks[k] % 100, none ? 1 : 0);
        }
    }

    static void end() {
        System.out.println(asked + " answers asked, " + wrong + " not as due");
        if (wrong > 0 || asked == 0) {
            System.exit(1);
        }
    }
}
