import java.math.BigInteger;
import java.util.ArrayList;
import java.util.Arrays;
import java.util.List;

/** The document once more, on Java's own arrays and numbers without end, for ModelTest. */
final class Model {
    /** A call that ends with a CODE, and what it answers. */
    static final class Stop extends RuntimeException {
        private static final long serialVersionUID = 1L;
        final int code;
        final int answer;

        Stop(int code, int answer) {
            super(null, null, false, false);
            this.code = code;
            this.answer = answer;
        }

        Stop(int code) {
            this(code, 0);
        }
    }

    private record Bounds(int low, int high) {
        BigInteger length() {
            return BigInteger.valueOf(high).subtract(BigInteger.valueOf(low)).add(BigInteger.ONE)
                    .max(BigInteger.ZERO);
        }
    }

    /** row: byte[], int[], long[], Long[] or, of TABLES, int[][]. */
    private record Made(int kind, List<Bounds> shape, Object row) {
    }

    private static final BigInteger MOST = BigInteger.valueOf(500);

    private final List<Bounds> shape = new ArrayList<>();
    private final List<long[]> list = new ArrayList<>();
    private final List<Made> arrays = new ArrayList<>();
    private int which = -1;

    int which() {
        return which;
    }

    int made() {
        return arrays.size();
    }

    int kindOf(int a) {
        return a < 0 || a >= arrays.size() ? -1 : arrays.get(a).kind;
    }

    /** LOW of a dimension; 0, where there is none. */
    int lowOf(int a, int dimension) {
        return kindOf(a) < 0 || dimension >= arrays.get(a).shape.size() ? 0 : arrays.get(a).shape.get(dimension).low;
    }

    long range(int low, int high) {
        stopIf(shape.size() == 3, 8);
        shape.add(new Bounds(low, high));
        return shape.size();
    }

    long shapeless() {
        int had = shape.size();
        shape.clear();
        return had;
    }

    long make(int kind) {
        stopIf(shape.isEmpty() || kind == 4 && shape.size() != 2, 9);
        stopIf(product(shape).compareTo(MOST) > 0, 5);
        stopIf(kind == 4 && shape.get(0).length().compareTo(MOST) > 0, 5);
        stopIf(arrays.size() == 24, 8);
        long number = add(kind, shape, kind == 4 ? tableOf(shape) : rowOf(kind, product(shape).intValue()));
        shape.clear();
        return number;
    }

    long raw(int kind, int n) {
        stopIf(n < 0, 4);
        stopIf(n > 500, 5);
        stopIf(arrays.size() == 24, 8);
        return add(kind, List.of(new Bounds(0, n - 1)), rowOf(kind, n));
    }

    long see(int a) {
        Made from = array(a);
        stopIf(from.kind == 4, 2);
        stopIf(shape.isEmpty(), 9);
        stopIf(!product(shape).equals(BigInteger.valueOf(size(from.row))), 10);
        stopIf(arrays.size() == 24, 8);
        long number = add(from.kind, shape, from.row);
        shape.clear();
        return number;
    }

    long turn(int a) {
        Made from = array(a);
        stopIf(from.kind == 4, 2);
        stopIf(from.shape.size() == 1, 9);
        stopIf(arrays.size() == 24, 8);
        List<Bounds> turned = new ArrayList<>(from.shape);
        turned.set(0, from.shape.get(1));
        turned.set(1, from.shape.get(0));
        Made to = new Made(from.kind, turned, rowOf(from.kind, size(from.row)));
        for (int[] index : indexes(turned)) {
            int[] other = index.clone();
            other[0] = index[1];
            other[1] = index[0];
            set(to.row, place(turned, index), item(from.row, place(from.shape, other)));
        }
        return add(to.kind, to.shape, to.row);
    }

    long cut(int a) {
        Made from = array(a);
        stopIf(from.kind == 4, 2);
        stopIf(from.shape.size() != shape.size(), 9);
        stopIf(product(shape).compareTo(MOST) > 0, 5);
        Object row = rowOf(from.kind, product(shape).intValue());
        for (int[] index : indexes(shape)) {
            stopBeyond(from.shape, index);
            set(row, place(shape, index), item(from.row, place(from.shape, index)));
        }
        stopIf(arrays.size() == 24, 8);
        long number = add(from.kind, shape, row);
        shape.clear();
        return number;
    }

    long deep(int a) {
        Made from = array(a);
        stopIf(from.kind != 1, 2);
        stopIf(from.shape.size() != 2, 9);
        stopIf(from.shape.get(0).length().compareTo(MOST) > 0, 5);
        stopIf(arrays.size() == 24, 8);
        int[][] rows = tableOf(from.shape);
        int at = 0;
        for (int[] row : rows) {
            for (int n = 0; n < row.length; n++) {
                row[n] = ((int[]) from.row)[at++];
            }
        }
        return add(4, from.shape, rows);
    }

    long flat(int a) {
        Made from = array(a);
        stopIf(from.kind != 4, 2);
        List<Integer> all = new ArrayList<>();
        for (int[] row : (int[][]) from.row) {
            stopIf(row == null, 1);
            stopIf(!BigInteger.valueOf(row.length).equals(from.shape.get(1).length()), 11);
            for (int number : row) {
                all.add(number);
            }
        }
        stopIf(arrays.size() == 24, 8);
        return add(1, from.shape, all.stream().mapToInt(Integer::intValue).toArray());
    }

    long ragged(int a, int i, int n) {
        int[][] rows = table(a);
        int at = rowAt(array(a), i, 0);
        stopIf(n < 0, 4);
        stopIf(n > 100, 5);
        rows[at] = new int[n];
        return 1;
    }

    long without(int a, int i) {
        table(a)[rowAt(array(a), i, 0)] = null;
        return 1;
    }

    long tie(int a, int i, int b, int h) {
        array(a);
        array(b);
        int[][] to = table(a);
        int[][] from = table(b);
        int at = rowAt(array(a), i, 0);
        to[at] = from[rowAt(array(b), h, 1)];
        return 1;
    }

    long get(int a, int i, int j, int k) {
        Made from = array(a);
        if (from.kind == 4) {
            return tableRow(from, i, j)[(int) ((long) j - from.shape.get(1).low)];
        }
        int[] index = {i, j, k};
        stopBeyond(from.shape, index);
        Long number = item(from.row, place(from.shape, index));
        stopIf(number == null, 1);
        return number;
    }

    long put(int a, int i, int j, int k, long v) {
        Made to = array(a);
        if (to.kind == 4) {
            tableRow(to, i, j)[(int) ((long) j - to.shape.get(1).low)] = (int) v;
            return 1;
        }
        int[] index = {i, j, k};
        stopBeyond(to.shape, index);
        set(to.row, place(to.shape, index), v);
        return 1;
    }

    long empty(int a, int i, int j, int k) {
        Made to = array(a);
        stopIf(to.kind != 3, 2);
        int[] index = {i, j, k};
        stopBeyond(to.shape, index);
        set(to.row, place(to.shape, index), null);
        return 1;
    }

    long pair(int i, int j, int k, long v) {
        stopIf(list.size() == 30, 8);
        list.add(new long[] {i, j, k, v});
        return list.size();
    }

    long gather(int a, int way) {
        Made to = array(a);
        stopIf(to.kind == 4, 2);
        int done = 0;
        for (long[] line : list) {
            int[] index = {(int) line[0], (int) line[1], (int) line[2]};
            int beyond = beyond(to.shape, index);
            if (beyond >= 0) {
                which = beyond;
                throw new Stop(3, done);
            }
            joinAt(to.row, place(to.shape, index), line[3], way, done);
            done++;
        }
        list.clear();
        return done;
    }

    long join(int a, int b, int way) {
        Made to = array(a);
        Made from = array(b);
        stopIf(to.kind != from.kind || to.kind == 4, 2);
        stopIf(size(to.row) != size(from.row), 10);
        for (int p = 0; p < size(to.row); p++) {
            Long v = item(from.row, p);
            if (v == null) {
                throw new Stop(1, p);
            }
            joinAt(to.row, p, v, way, p);
        }
        return size(to.row);
    }

    long sum(int a) {
        Made from = array(a);
        long total = 0;
        for (Long number : items(from)) {
            total += number == null ? 0 : number;
        }
        return total;
    }

    long mean(int a) {
        Made from = array(a);
        stopIf(from.kind > 2, 2);
        stopIf(size(from.row) == 0, 6);
        return sum(a) / size(from.row);
    }

    long about(int a, int what) {
        Made from = array(a);
        if (what == 0) {
            return from.kind;
        }
        if (what == 1) {
            return from.shape.size();
        }
        if (what == 2) {
            return items(from).size();
        }
        List<Integer> bounds = new ArrayList<>();
        for (Bounds b : from.shape) {
            bounds.add(b.low);
            bounds.add(b.high);
        }
        stopIf(what - 3 >= bounds.size(), 9);
        return bounds.get(what - 3);
    }

    long same(int a, int b) {
        Object one = array(a).row;
        Object other = array(b).row;
        if (one instanceof int[][] rows && other instanceof int[][] others) {
            boolean alike = rows.length == others.length;
            for (int r = 0; alike && r < rows.length; r++) {
                alike = rows[r] == others[r];
            }
            return alike ? 1 : 0;
        }
        return one == other ? 1 : 0;
    }

    long compare(int a, int b) {
        Made one = array(a);
        Made other = array(b);
        stopIf(one.kind != other.kind || one.kind > 2, 2);
        long[] left = items(one).stream().mapToLong(Long::longValue).toArray();
        long[] right = items(other).stream().mapToLong(Long::longValue).toArray();
        return Integer.signum(Arrays.compare(left, right));
    }

    long clear() {
        int had = arrays.size();
        arrays.clear();
        shape.clear();
        list.clear();
        which = -1;
        return had;
    }

    private static void stopIf(boolean stopped, int code) {
        if (stopped) {
            throw new Stop(code);
        }
    }

    private Made array(int a) {
        stopIf(a < 0 || a >= arrays.size(), 7);
        return arrays.get(a);
    }

    private int[][] table(int a) {
        stopIf(array(a).kind != 4, 2);
        return (int[][]) array(a).row;
    }

    private int rowAt(Made table, int i, int told) {
        if (beyond(table.shape.subList(0, 1), new int[] {i}) >= 0) {
            which = told;
            throw new Stop(3);
        }
        return (int) ((long) i - table.shape.get(0).low);
    }

    private int[] tableRow(Made table, int i, int j) {
        int[] row = ((int[][]) table.row)[rowAt(table, i, 0)];
        stopIf(row == null, 1);
        long at = (long) j - table.shape.get(1).low;
        if (at < 0 || at >= row.length) {
            which = 1;
            throw new Stop(3);
        }
        return row;
    }

    private long add(int kind, List<Bounds> itsShape, Object row) {
        arrays.add(new Made(kind, List.copyOf(itsShape), row));
        return arrays.size() - 1;
    }

    private static BigInteger product(List<Bounds> shape) {
        return shape.stream().map(Bounds::length).reduce(BigInteger.ONE, BigInteger::multiply);
    }

    private static Object rowOf(int kind, int n) {
        return switch (kind) {
            case 0 -> new byte[n];
            case 1 -> new int[n];
            case 2 -> new long[n];
            default -> new Long[n];
        };
    }

    private static int[][] tableOf(List<Bounds> shape) {
        int[][] rows = new int[shape.get(0).length().intValue()][];
        for (int r = 0; r < rows.length; r++) {
            rows[r] = new int[shape.get(1).length().intValue()];
        }
        return rows;
    }

    private static int size(Object row) {
        return java.lang.reflect.Array.getLength(row);
    }

    private static Long item(Object row, int p) {
        Object found = java.lang.reflect.Array.get(row, p);
        return found == null ? null : Long.valueOf(((Number) found).longValue());
    }

    private static void set(Object row, int p, Long v) {
        if (row instanceof byte[] bytes) {
            bytes[p] = v.byteValue();
        } else if (row instanceof int[] ints) {
            ints[p] = v.intValue();
        } else if (row instanceof long[] longs) {
            longs[p] = v;
        } else if (row instanceof Long[] boxes) {
            boxes[p] = v;
        }
    }

    private static List<Long> items(Made from) {
        List<Long> all = new ArrayList<>();
        if (from.row instanceof int[][] rows) {
            for (int[] row : rows) {
                for (int n = 0; row != null && n < row.length; n++) {
                    all.add((long) row[n]);
                }
            }
            return all;
        }
        for (int p = 0; p < size(from.row); p++) {
            all.add(item(from.row, p));
        }
        return all;
    }

    private static void joinAt(Object row, int p, long v, int way, int done) {
        Long o = item(row, p);
        if (o == null) {
            set(row, p, v);
            return;
        }
        if (way >= 4 && v == 0) {
            throw new Stop(6, done);
        }
        BigInteger left = BigInteger.valueOf(o);
        BigInteger right = BigInteger.valueOf(v);
        BigInteger joined = switch (way) {
            case 0 -> right;
            case 1 -> left.add(right);
            case 2 -> left.max(right);
            case 3 -> left.min(right);
            case 4 -> left.divide(right);
            default -> left.remainder(right);
        };
        set(row, p, joined.longValue());
    }

    private static int beyond(List<Bounds> shape, int[] index) {
        for (int d = 0; d < shape.size(); d++) {
            if (index[d] < shape.get(d).low || index[d] > shape.get(d).high) {
                return d;
            }
        }
        return -1;
    }

    private void stopBeyond(List<Bounds> shape, int[] index) {
        int beyond = beyond(shape, index);
        if (beyond >= 0) {
            which = beyond;
            throw new Stop(3);
        }
    }

    /** All indexes of a shape that has at most 500 items, by the row's order. */
    private static List<int[]> indexes(List<Bounds> shape) {
        List<int[]> all = new ArrayList<>();
        if (product(shape).signum() == 0) {
            return all;
        }
        all.add(new int[0]);
        for (Bounds b : shape) {
            List<int[]> longer = new ArrayList<>();
            for (int[] index : all) {
                for (long at = b.low; at <= b.high; at++) {
                    int[] next = Arrays.copyOf(index, index.length + 1);
                    next[index.length] = (int) at;
                    longer.add(next);
                }
            }
            all = longer;
        }
        return all;
    }

    private static int place(List<Bounds> shape, int[] index) {
        int place = 0;
        for (int d = 0; d < shape.size(); d++) {
            place = place * shape.get(d).length().intValue() + (int) ((long) index[d] - shape.get(d).low);
        }
        return place;
    }
}
