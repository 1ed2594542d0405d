/** Promises 13 to 18: ragged, without, tie, get, put, empty. */
public final class ItemTest {
    private static final int MIN = Integer.MIN_VALUE, MAX = Integer.MAX_VALUE;

    private static void ragged() {
        Checks c = new Checks("promise 13, ragged");
        int t = c.made(4, 3, 4, 10, 11);
        c.x.put(t, 3, 10, 0, 6);
        c.ok("ragged", c.x.ragged(t, 3, 4), 1);
        c.ok("get, a new row", c.x.get(t, 3, 10, 0), 0);
        c.ok("put beyond HIGH", c.x.put(t, 3, 13, 0, 7), 1);
        c.ok("get beyond HIGH", c.x.get(t, 3, 13, 0), 7);
        c.beyond("get beyond the row", c.x.get(t, 3, 14, 0), 1);
        c.beyond("get below LOW", c.x.get(t, 3, 9, 0), 1);
        c.ok("about ITEMS", c.x.about(t, 2), 6);
        c.ok("about HIGH 1", c.x.about(t, 6), 11);
        c.ok("ragged, none", c.x.ragged(t, 4, 0), 1);
        c.beyond("get, none", c.x.get(t, 4, 10, 0), 1);
        c.ok("ragged, 100", c.x.ragged(t, 4, 100), 1);
        c.ok("about ITEMS", c.x.about(t, 2), 104);
        c.stopped("ragged, 101", c.x.ragged(t, 4, 101), 5);
        c.stopped("ragged, MAX", c.x.ragged(t, 4, MAX), 5);
        c.stopped("ragged, -1", c.x.ragged(t, 4, -1), 4);
        c.stopped("ragged, MIN", c.x.ragged(t, 4, MIN), 4);
        c.ok("nothing has changed", c.x.about(t, 2), 104);
        c.x.get(t, 3, 9, 0);
        c.beyond("ragged, an index above, ahead of a length", c.x.ragged(t, 5, -1), 0);
        c.x.get(t, 3, 9, 0);
        c.beyond("ragged, an index below", c.x.ragged(t, 2, 1), 0);
        c.stopped("ragged of ints", c.x.ragged(c.x.raw(1, 2), 9, 1), 2);
        c.stopped("ragged, no array", c.x.ragged(2, 3, 1), 7);
        c.ok("without", c.x.without(t, 3), 1);
        c.ok("ragged, where no row was", c.x.ragged(t, 3, 1), 1);
        c.ok("get", c.x.get(t, 3, 10, 0), 0);
    }

    private static void manyRagged() {
        Checks c = new Checks("promise 13, ragged 500 times");
        int t = c.made(4, 0, 1, 0, 249);
        for (int n = 0; n < 250; n++) {
            c.due("ragged", c.x.ragged(t, 0, 100), 1);
            c.due("put", c.x.put(t, 0, 99, 0, n + 1), 1);
        }
        c.ok("sum", c.x.sum(t), 250);
    }

    private static void everythingAtOnce() {
        Checks c = new Checks("promise 13, ragged beside 24 tables of 500 rows");
        for (int n = 0; n < 24; n++) {
            c.x.range(1, 500);
            c.x.range(1, 1);
            c.due("make", c.x.make(4), n);
        }
        for (int n = 0; n < 430; n++) {
            c.due("ragged", c.x.ragged(n % 24, 1 + n, 100), 1);
        }
        c.ok("about ITEMS of the first", c.x.about(0, 2), 500 + 18 * 99);
        c.ok("put, the last row", c.x.put(23, 500, 1, 0, 4), 1);
        c.ok("sum", c.x.sum(23), 4);
    }

    private static void without() {
        Checks c = new Checks("promise 14, without");
        int t = c.made(4, -1, 1, 0, 2);
        c.x.put(t, 0, 0, 0, 5);
        c.ok("without", c.x.without(t, 0), 1);
        c.stopped("get", c.x.get(t, 0, 0, 0), 1);
        c.stopped("get, beyond, too", c.x.get(t, 0, 9, 0), 1);
        c.ok("about ITEMS", c.x.about(t, 2), 6);
        c.ok("without, twice", c.x.without(t, 0), 1);
        c.ok("get, another row", c.x.get(t, 1, 2, 0), 0);
        c.x.get(t, 1, 3, 0);
        c.beyond("without, below", c.x.without(t, -2), 0);
        c.x.get(t, 1, 3, 0);
        c.beyond("without, above", c.x.without(t, 2), 0);
        c.stopped("without of boxes", c.x.without(c.x.raw(3, 2), 9), 2);
        c.stopped("without, no array", c.x.without(MIN, 0), 7);
    }

    private static void tie() {
        Checks c = new Checks("promise 15, tie");
        int a = c.made(4, 1, 2, 0, 1);
        int b = c.made(4, 5, 6, 10, 12);
        c.x.put(b, 6, 12, 0, 3);
        c.ok("tie", c.x.tie(a, 1, b, 6), 1);
        c.ok("get", c.x.get(a, 1, 2, 0), 3);
        c.ok("about ITEMS", c.x.about(a, 2), 5);
        c.ok("put", c.x.put(a, 1, 0, 0, 8), 1);
        c.ok("get in the other", c.x.get(b, 6, 10, 0), 8);
        c.ok("ragged", c.x.ragged(b, 6, 1), 1);
        c.ok("the tied row stays", c.x.get(a, 1, 0, 0), 8);
        c.ok("without", c.x.without(b, 5), 1);
        c.ok("tie to nothing", c.x.tie(a, 2, b, 5), 1);
        c.stopped("get of nothing", c.x.get(a, 2, 0, 0), 1);
        c.ok("tie to itself", c.x.tie(a, 1, a, 1), 1);
        c.ok("get", c.x.get(a, 1, 0, 0), 8);
        int ints = c.x.raw(1, 3);
        c.stopped("tie, no first array", c.x.tie(9, 1, b, 5), 7);
        c.stopped("tie, no second array, ahead of kinds", c.x.tie(ints, 1, 9, 5), 7);
        c.stopped("tie, the first one of ints", c.x.tie(ints, 1, b, 5), 2);
        c.stopped("tie, the second one of ints, ahead of items", c.x.tie(a, 9, ints, 5), 2);
        c.beyond("tie, the first index, then the second", c.x.tie(a, 0, b, 7), 0);
        c.beyond("tie, the second index", c.x.tie(a, 1, b, 7), 1);
        c.beyond("tie, the second index below", c.x.tie(a, 1, b, 4), 1);
        c.beyond("tie, the first index above", c.x.tie(a, 3, b, 5), 0);
        c.ok("nothing has changed", c.x.get(a, 1, 0, 0), 8);
    }

    private static void get() {
        Checks c = new Checks("promise 16, get");
        int a = c.made(2, 1, 2, 3, 4);
        c.x.put(a, 2, 3, 0, Long.MAX_VALUE);
        c.ok("get, k is not looked at", c.x.get(a, 2, 3, MIN), Long.MAX_VALUE);
        c.beyond("get, j above", c.x.get(a, 2, 5, 0), 1);
        c.beyond("get, j below", c.x.get(a, 2, 2, 0), 1);
        c.beyond("get, i below", c.x.get(a, 0, 3, 0), 0);
        c.beyond("get, i above", c.x.get(a, 3, 9, 0), 0);
        c.ok("get, j and k are not looked at", c.x.get(c.x.raw(0, 1), 0, MAX, MAX), 0);
        c.stopped("get, no array", c.x.get(2, 0, 0, 0), 7);
        c.stopped("get, an array below 0", c.x.get(-1, 0, 0, 0), 7);
        int boxes = c.x.raw(3, 1);
        c.stopped("get of nothing", c.x.get(boxes, 0, 0, 0), 1);
        c.beyond("get beyond a box", c.x.get(boxes, 1, 0, 0), 0);
        int t = c.made(4, 1, 1, MIN, MIN + 2);
        c.x.put(t, 1, MIN + 2, 0, 4);
        c.ok("get of a table, k is not looked at", c.x.get(t, 1, MIN + 2, 7), 4);
        c.beyond("get, j less LOW is above ints", c.x.get(t, 1, MAX, 0), 1);
        c.beyond("get, j less LOW wraps to a small number", c.x.get(t, 1, 1, 0), 1);
        int top = c.made(4, 1, 1, MAX - 1, MAX);
        c.beyond("get, j less LOW wraps from below", c.x.get(top, 1, MIN, 0), 1);
        c.x.ragged(top, 1, 5);
        c.ok("get at the top of a ragged row", c.x.get(top, 1, MAX, 0), 0);
        c.beyond("get, j less LOW wraps into a ragged row", c.x.get(top, 1, MIN, 0), 1);
        c.beyond("put, j less LOW wraps into a ragged row", c.x.put(top, 1, MIN + 1, 0, 1), 1);
        c.beyond("get, i ahead of no row", c.x.get(t, 2, MAX, 0), 0);
        c.x.without(t, 1);
        c.stopped("get, no row ahead of j", c.x.get(t, 1, MAX, 0), 1);
    }

    private static void put() {
        Checks c = new Checks("promise 17, put");
        int bytes = c.x.raw(0, 1);
        int ints = c.x.raw(1, 1);
        int longs = c.x.raw(2, 1);
        int boxes = c.x.raw(3, 1);
        int table = c.made(4, 0, 0, 0, 0);
        long[] numbers = {127, 128, -128, -129, 255, 256, 0x7fffffffL, 0x80000000L, -0x80000001L,
                0x123456789abcdef0L, Long.MIN_VALUE, Long.MAX_VALUE, -1};
        for (long v : numbers) {
            c.ok("put into bytes", c.x.put(bytes, 0, 0, 0, v), 1);
            c.ok("get of bytes", c.x.get(bytes, 0, 0, 0), (byte) v);
            c.ok("put into ints", c.x.put(ints, 0, 0, 0, v), 1);
            c.ok("get of ints", c.x.get(ints, 0, 0, 0), (int) v);
            c.ok("put into longs", c.x.put(longs, 0, 0, 0, v), 1);
            c.ok("get of longs", c.x.get(longs, 0, 0, 0), v);
            c.ok("put into boxes", c.x.put(boxes, 0, 0, 0, v), 1);
            c.ok("get of boxes", c.x.get(boxes, 0, 0, 0), v);
            c.ok("put into a table", c.x.put(table, 0, 0, 0, v), 1);
            c.ok("get of a table", c.x.get(table, 0, 0, 0), (int) v);
        }
        c.stopped("put, no array", c.x.put(5, 0, 0, 0, 1), 7);
        c.beyond("put, beyond", c.x.put(longs, 1, 0, 0, 1), 0);
        c.beyond("put, below", c.x.put(longs, -1, 0, 0, 1), 0);
        c.beyond("put, j of a table", c.x.put(table, 0, 1, 0, 1), 1);
        c.beyond("put, i of a table", c.x.put(table, 1, 1, 0, 1), 0);
        c.ok("nothing has changed", c.x.get(longs, 0, 0, 0), -1);
        c.x.without(table, 0);
        c.stopped("put, no row ahead of j", c.x.put(table, 0, 1, 0, 1), 1);
        c.beyond("put, i ahead of no row", c.x.put(table, -1, 1, 0, 1), 0);
    }

    private static void empty() {
        Checks c = new Checks("promise 18, empty");
        int boxes = c.made(3, 1, 1, 1, 2);
        c.x.put(boxes, 1, 2, 0, 4);
        c.ok("empty", c.x.empty(boxes, 1, 2, 9), 1);
        c.stopped("get", c.x.get(boxes, 1, 2, 0), 1);
        c.ok("sum", c.x.sum(boxes), 0);
        c.ok("empty, twice", c.x.empty(boxes, 1, 2, 0), 1);
        c.beyond("empty, i", c.x.empty(boxes, 2, 3, 0), 0);
        c.beyond("empty, j", c.x.empty(boxes, 1, 3, 0), 1);
        c.x.put(boxes, 1, 1, 0, 6);
        c.x.raw(0, 500);
        c.x.raw(0, 500);
        c.ok("get of a box, when much has been made", c.x.get(boxes, 1, 1, 0), 6);
        c.stopped("get of nothing, when much has been made", c.x.get(boxes, 1, 2, 0), 1);
        c.stopped("empty of longs, ahead of items", c.x.empty(c.x.raw(2, 1), 9, 0, 0), 2);
        c.stopped("empty of tables", c.x.empty(c.made(4, 1, 1, 1, 1), 1, 1, 0), 2);
        c.stopped("empty, no array", c.x.empty(5, 0, 0, 0), 7);
    }

    public static void main(String[] args) {
        ragged();
        manyRagged();
        everythingAtOnce();
        without();
        tie();
        get();
        put();
        empty();
        Checks.end();
    }
}
