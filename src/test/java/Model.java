import java.util.Arrays;
import java.util.IdentityHashMap;
import java.util.Map;

/**
 * The document read anew over Java's own arrays: byte[], int[], int[][], Thing[], Leaf[], Node[]. What stops a call
 * is what the machine itself throws, so that the class is held against the machine and not against itself.
 */
final class Model {
    static class Thing {
        final int number;

        Thing(int number) {
            this.number = number;
        }
    }

    static final class Leaf extends Thing {
        Leaf(int number) {
            super(number);
        }
    }

    static final class Node extends Thing {
        Node(int number) {
            super(number);
        }
    }

    /** A CODE that the machine has no exception for. */
    private static final class Refused extends RuntimeException {
        private static final long serialVersionUID = 1L;
        final int code;

        Refused(int code) {
            this.code = code;
        }
    }

    private interface Call {
        int run();
    }

    final Object[] places = new Object[12];
    int code = 0;
    private int done;

    private int tell(Call call) {
        code = 0;
        try {
            return call.run();
        } catch (Refused e) {
            code = e.code;
        } catch (NullPointerException e) {
            code = 1;
        } catch (ArrayStoreException e) {
            code = 2;
        } catch (IndexOutOfBoundsException e) {
            code = 3;
        } catch (NegativeArraySizeException e) {
            code = 4;
        } catch (ClassCastException e) {
            code = 5;
        } catch (ArithmeticException e) {
            code = 6;
        }
        return 0;
    }

    private static boolean out(int... given) {
        return Arrays.stream(given).anyMatch(p -> p < 0 || p > 11);
    }

    private static Object array(int kind, int n) {
        switch (kind) {
            case 0: return new byte[n];
            case 1: return new int[n];
            case 2: return new int[n][];
            case 3: return new Thing[n];
            case 4: return new Leaf[n];
            default: return new Node[n];
        }
    }

    private static int kindOf(Object held) {
        if (held == null) {
            return -1;
        }
        Class<?>[] classes = {byte[].class, int[].class, int[][].class, Thing[].class, Leaf[].class, Node[].class};
        int at = Arrays.asList(classes).indexOf(held.getClass());
        return at < 0 ? 6 : at;
    }

    /** The length, by the machine's own NullPointerException or a ClassCastException. */
    private static int size(Object held) {
        if (held.getClass().isArray()) {
            return java.lang.reflect.Array.getLength(held);
        }
        throw new ClassCastException();
    }

    int make(int place, int kind, int n) {
        if (out(place) || kind < 0 || kind > 5 || n > 40) {
            return CopyRows.OUTSIDE;
        }
        return tell(() -> {
            places[place] = array(kind, n);
            return n;
        });
    }

    int share(int place, int other) {
        if (out(place, other)) {
            return CopyRows.OUTSIDE;
        }
        places[place] = places[other];
        return kindOf(places[other]);
    }

    int nothing(int place) {
        if (out(place)) {
            return CopyRows.OUTSIDE;
        }
        int before = kindOf(places[place]);
        places[place] = null;
        return before;
    }

    int lump(int place) {
        if (out(place)) {
            return CopyRows.OUTSIDE;
        }
        places[place] = new Object();
        return 1;
    }

    int kind(int place) {
        return out(place) ? CopyRows.OUTSIDE : kindOf(places[place]);
    }

    int length(int place) {
        return out(place) ? CopyRows.OUTSIDE : tell(() -> size(places[place]));
    }

    int set(int place, int k, int v) {
        return out(place) ? CopyRows.OUTSIDE : tell(() -> {
            if (places[place] instanceof byte[] bytes) {
                int before = bytes[k];
                bytes[k] = (byte) v;
                return before;
            }
            int[] ints = (int[]) places[place];
            int before = ints[k];
            ints[k] = v;
            return before;
        });
    }

    int thing(int place, int k, int cls, int number) {
        if (out(place) || cls < -1 || cls > 2) {
            return CopyRows.OUTSIDE;
        }
        return tell(() -> {
            Thing[] row = (Thing[]) places[place];
            row[k] = row[k];
            row[k] = cls < 0 ? null : cls == 0 ? new Thing(number) : cls == 1 ? new Leaf(number) : new Node(number);
            return 1;
        });
    }

    int hang(int place, int k, int other) {
        return out(place, other) ? CopyRows.OUTSIDE : tell(() -> {
            size(places[place]);
            int[][] table = (int[][]) places[place];
            table[k] = (int[]) cast(table, places[other]);
            return 1;
        });
    }

    /** Java looks at the index of a store behind its right side, so a cast there comes ahead of a wrong index. */
    private static Object cast(int[][] table, Object held) {
        if (table == null) {
            throw new NullPointerException();
        }
        return held;
    }

    int item(int place, int k) {
        return out(place) ? CopyRows.OUTSIDE : tell(() -> {
            size(places[place]);
            Object row = places[place];
            return row instanceof byte[] b ? b[k] : row instanceof int[] n ? n[k]
                : row instanceof int[][] t ? t[k].length : ((Thing[]) row)[k].number;
        });
    }

    int classOf(int place, int k) {
        return out(place) ? CopyRows.OUTSIDE : tell(() -> {
            Thing thing = ((Thing[]) places[place])[k];
            return thing == null ? -1 : thing instanceof Leaf ? 1 : thing instanceof Node ? 2 : 0;
        });
    }

    int move(int x, int i, int y, int j, int n) {
        if (out(x, y)) {
            return CopyRows.OUTSIDE;
        }
        Object[] mark = places[y] instanceof Object[] row && places[x] != places[y] ? row.clone() : null;
        tell(() -> {
            System.arraycopy(places[x], i, places[y], j, n);
            return n;
        });
        if (code == 0) {
            return n;
        }
        return code != 2 || mark == null || !(places[x] instanceof Object[]) ? 0 : movedBy(x, i, y, j, n, mark);
    }

    /** How far the machine's copy came: ITEMS that fit, counted by storing each again. */
    private int movedBy(int x, int i, int y, int j, int n, Object[] mark) {
        Object[] from = (Object[]) places[x];
        Object[] to = (Object[]) places[y];
        int moved = 0;
        try {
            for (; moved < n; moved++) {
                mark[j + moved] = from[i + moved];
            }
        } catch (ArrayStoreException e) {
            if (!sameItems(mark, to)) {
                throw new IllegalStateException("the machine's copy went otherwise");
            }
        }
        return moved;
    }

    private static boolean sameItems(Object[] a, Object[] b) {
        boolean same = a.length == b.length;
        for (int t = 0; same && t < a.length; t++) {
            same = a[t] == b[t];
        }
        return same;
    }

    int loop(int x, int i, int y, int j, int n) {
        if (out(x, y)) {
            return CopyRows.OUTSIDE;
        }
        done = 0;
        tell(() -> {
            System.arraycopy(places[x], 0, places[y], 0, 0);
            for (; done < n; done++) {
                one(places[x], i + done, places[y], j + done);
            }
            return done;
        });
        return done;
    }

    private static void one(Object x, int i, Object y, int j) {
        if (x instanceof byte[] b) {
            ((byte[]) y)[j] = b[i];
        } else if (x instanceof int[] n) {
            ((int[]) y)[j] = n[i];
        } else {
            ((Object[]) y)[j] = ((Object[]) x)[i];
        }
    }

    int copy(int place, int other) {
        return out(place, other) ? CopyRows.OUTSIDE : tell(() -> {
            int n = size(places[other]);
            places[place] = cut(places[other], 0, n);
            return n;
        });
    }

    int slice(int place, int other, int i, int n) {
        return out(place, other) ? CopyRows.OUTSIDE : tell(() -> {
            size(places[other]);
            if (n > 40) {
                throw new IndexOutOfBoundsException();
            }
            places[place] = cut(places[other], i, n);
            return n;
        });
    }

    private static Object cut(Object row, int i, int n) {
        Object fresh = array(kindOf(row), n);
        System.arraycopy(row, i, fresh, 0, n);
        return fresh;
    }

    int join(int place, int a, int b) {
        return out(place, a, b) ? CopyRows.OUTSIDE : tell(() -> {
            places[a].getClass();
            places[b].getClass();
            int n = size(places[a]);
            int m = size(places[b]);
            if (n + m > 40) {
                throw new Refused(3);
            }
            Object joined = array(kindOf(places[a]), n + m);
            System.arraycopy(places[a], 0, joined, 0, n);
            System.arraycopy(places[b], 0, joined, n, m);
            places[place] = joined;
            return n + m;
        });
    }

    int update(int place, int indexes, int values) {
        if (out(place, indexes, values)) {
            return CopyRows.OUTSIDE;
        }
        done = 0;
        tell(() -> {
            places[place].getClass();
            places[indexes].getClass();
            places[values].getClass();
            int[] to = (int[]) places[place];
            int[] which = (int[]) places[indexes];
            int[] from = (int[]) places[values];
            for (; done < which.length; done++) {
                to[which[done]] = from[which[done]];
            }
            return done;
        });
        return done;
    }

    int rotate(int place, int by) {
        return out(place) ? CopyRows.OUTSIDE : tell(() -> {
            int n = size(places[place]);
            int start = Math.floorMod(by, n);
            Object before = cut(places[place], 0, n);
            for (int t = 0; t < n; t++) {
                one(before, t, places[place], (start + t) % n);
            }
            return start;
        });
    }

    int sum(int place) {
        return out(place) ? CopyRows.OUTSIDE : tell(() -> total(places[place]));
    }

    private static int total(Object row) {
        int sum = 0;
        if (row instanceof int[][] table) {
            for (int[] ints : table) {
                sum += total(ints);
            }
        } else if (row instanceof byte[] bytes) {
            for (byte b : bytes) {
                sum += b;
            }
        } else {
            for (int v : (int[]) row) {
                sum += v;
            }
        }
        return sum;
    }

    int mean(int place) {
        return out(place) ? CopyRows.OUTSIDE : tell(() -> {
            if (places[place] instanceof int[][]) {
                throw new ClassCastException();
            }
            return total(places[place]) / size(places[place]);
        });
    }

    int same(int a, int b) {
        return out(a, b) ? CopyRows.OUTSIDE : places[a] == places[b] ? 1 : 0;
    }

    int equal(int a, int b) {
        if (out(a, b)) {
            return CopyRows.OUTSIDE;
        }
        Object one = places[a];
        Object two = places[b];
        if (one == two) {
            return 1;
        }
        if (one == null || two == null || one.getClass() != two.getClass()) {
            return 0;
        }
        boolean like = one instanceof byte[] bytes ? Arrays.equals(bytes, (byte[]) two)
            : one instanceof int[] ints ? Arrays.equals(ints, (int[]) two)
            : one instanceof Object[] row && sameItems(row, (Object[]) two);
        return like ? 1 : 0;
    }

    int compare(int a, int b) {
        return out(a, b) ? CopyRows.OUTSIDE : tell(() -> {
            places[a].getClass();
            places[b].getClass();
            int order = places[a] instanceof byte[] bytes ? Arrays.compare(bytes, (byte[]) places[b])
                : Arrays.compare((int[]) places[a], (int[]) places[b]);
            return Integer.signum(order);
        });
    }

    int held(int place) {
        if (out(place)) {
            return CopyRows.OUTSIDE;
        }
        Object sought = places[place];
        if (sought == null) {
            return 0;
        }
        Map<Object, Object> tables = new IdentityHashMap<>();
        int count = 0;
        for (Object held : places) {
            count += held == sought ? 1 : 0;
            if (held instanceof int[][] && tables.put(held, held) == null) {
                count += (int) Arrays.stream((Object[]) held).filter(row -> row == sought).count();
            }
        }
        return count;
    }
}
