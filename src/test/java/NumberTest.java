/** Promises 22 to 27: sum, mean, about, same, compare, clear. */
public final class NumberTest {
    private static void sum() {
        Checks c = new Checks("promise 22, sum");
        int longs = c.x.raw(2, 3);
        c.x.put(longs, 0, 0, 0, Long.MAX_VALUE);
        c.x.put(longs, 2, 0, 0, 2);
        c.ok("sum, wrapping", c.x.sum(longs), Long.MIN_VALUE + 1);
        int ints = c.x.raw(1, 2);
        c.x.put(ints, 0, 0, 0, Integer.MAX_VALUE);
        c.x.put(ints, 1, 0, 0, Integer.MAX_VALUE);
        c.ok("sum of ints in 64 bits", c.x.sum(ints), 2L * Integer.MAX_VALUE);
        int bytes = c.x.raw(0, 2);
        c.x.put(bytes, 0, 0, 0, 127);
        c.x.put(bytes, 1, 0, 0, 127);
        c.ok("sum of bytes in 64 bits", c.x.sum(bytes), 254);
        int boxes = c.x.raw(3, 3);
        c.ok("sum of nothing", c.x.sum(boxes), 0);
        c.x.put(boxes, 1, 0, 0, -4);
        c.ok("sum of boxes", c.x.sum(boxes), -4);
        int t = c.made(4, 1, 3, 1, 2);
        c.x.put(t, 1, 1, 0, 5);
        c.x.put(t, 3, 2, 0, 6);
        c.ok("sum of tables", c.x.sum(t), 11);
        c.x.tie(t, 2, t, 3);
        c.ok("sum of tied rows", c.x.sum(t), 17);
        c.x.without(t, 1);
        c.ok("sum without a row", c.x.sum(t), 12);
        c.stopped("sum, no array", c.x.sum(5), 7);
    }

    private static void mean() {
        Checks c = new Checks("promise 23, mean");
        for (int kind = 0; kind < 3; kind++) {
            int a = c.x.raw(kind, 4);
            c.x.put(a, 0, 0, 0, -5);
            c.x.put(a, 1, 0, 0, -6);
            c.ok("mean, towards 0", c.x.mean(a), -2);
            c.x.get(a, 4, 0, 0);
            c.ok("mean behind another code", c.x.mean(a), -2);
            c.x.put(a, 2, 0, 0, 30);
            c.ok("mean", c.x.mean(a), 4);
            c.stopped("mean of no items", c.x.mean(c.x.raw(kind, 0)), 6);
        }
        int wide = c.x.raw(2, 2);
        c.x.put(wide, 0, 0, 0, Long.MAX_VALUE);
        c.x.put(wide, 1, 0, 0, Long.MAX_VALUE);
        c.ok("mean of a sum that wraps", c.x.mean(wide), -1);
        c.stopped("mean of boxes", c.x.mean(c.x.raw(3, 0)), 2);
        c.stopped("mean of tables", c.x.mean(c.made(4, 1, 0, 1, 1)), 2);
        c.stopped("mean, no array", c.x.mean(24), 7);
    }

    private static void about() {
        Checks c = new Checks("promise 24, about");
        int[] bounds = {-4, -2, 0, 5, 9, 10};
        int a = c.made(3, bounds);
        c.ok("about KIND", c.x.about(a, 0), 3);
        c.ok("about DIMENSIONS", c.x.about(a, 1), 3);
        c.ok("about ITEMS", c.x.about(a, 2), 36);
        for (int n = 0; n < 6; n++) {
            c.ok("about a bound", c.x.about(a, 3 + n), bounds[n]);
        }
        int t = c.made(4, 1, 3, 5, 9);
        c.ok("about ITEMS of tables", c.x.about(t, 2), 15);
        c.x.tie(t, 1, t, 2);
        c.x.without(t, 3);
        c.ok("about ITEMS of tied rows and none", c.x.about(t, 2), 10);
        c.ok("about HIGH 1", c.x.about(t, 6), 9);
        c.stopped("about LOW 2 of two", c.x.about(t, 7), 9);
        c.stopped("about HIGH 2 of two", c.x.about(t, 8), 9);
        int row = c.x.raw(0, 2);
        for (int what = 5; what <= 8; what++) {
            c.stopped("about of one dimension", c.x.about(row, what), 9);
        }
        c.stopped("about, no array", c.x.about(3, 8), 7);
        c.outside("about, -1", c.x.about(3, -1), 7);
        c.outside("about, 9", c.x.about(a, 9), 7);
    }

    private static void same() {
        Checks c = new Checks("promise 25, same");
        int a = c.x.raw(1, 0);
        int b = c.x.raw(1, 0);
        c.ok("same, itself", c.x.same(a, a), 1);
        c.x.get(a, 4, 0, 0);
        c.ok("same behind another code", c.x.same(a, a), 1);
        c.ok("same, two rows of no items", c.x.same(a, b), 0);
        c.shape(1, 0, 1, 0);
        c.ok("same, seen", c.x.same(c.x.see(a), a), 1);
        int t = c.made(4, 1, 2, 1, 0);
        int u = c.made(4, 7, 8, 1, 5);
        c.ok("same, tables with themselves", c.x.same(t, t), 1);
        c.ok("same, tables", c.x.same(t, u), 0);
        c.x.tie(u, 7, t, 1);
        c.ok("same, one row of two", c.x.same(t, u), 0);
        c.x.tie(u, 8, t, 1);
        c.ok("same, the second is the first", c.x.same(t, u), 0);
        c.x.tie(u, 7, t, 2);
        c.x.tie(u, 8, t, 2);
        c.ok("same, the first is the second", c.x.same(t, u), 0);
        c.x.tie(u, 7, t, 1);
        c.x.tie(u, 8, t, 2);
        c.ok("same, both rows", c.x.same(t, u), 1);
        c.x.without(u, 8);
        c.ok("same, a row and nothing", c.x.same(t, u), 0);
        c.x.without(t, 2);
        c.ok("same, nothing and nothing", c.x.same(t, u), 1);
        int longer = c.made(4, 1, 3, 1, 0);
        c.x.tie(longer, 1, t, 1);
        c.x.without(longer, 2);
        c.x.without(longer, 3);
        c.ok("same, more rows", c.x.same(t, longer), 0);
        c.ok("same, fewer rows", c.x.same(longer, t), 0);
        c.ok("same, tables and ints", c.x.same(t, a), 0);
        c.ok("same, ints and tables", c.x.same(a, t), 0);
        c.ok("same, tables without rows", c.x.same(c.made(4, 1, 0, 1, 1), c.made(4, 2, 1, 1, 9)), 1);
        int two = c.x.raw(1, 2);
        c.ok("same, tables and ints of as many", c.x.same(t, two), 0);
        c.ok("same, ints and tables of as many", c.x.same(two, t), 0);
        c.stopped("same, no first", c.x.same(19, a), 7);
        c.stopped("same, no second", c.x.same(a, -1), 7);
    }

    private static void sameBehindClear() {
        Checks c = new Checks("promise 25, same behind clear");
        c.x.raw(1, 2);
        c.x.raw(1, 2);
        c.x.clear();
        int ints = c.x.raw(1, 2);
        int other = c.made(4, 1, 2, 1, 1);
        c.ok("same, ints and tables", c.x.same(ints, other), 0);
        c.x.clear();
        int table = c.made(4, 1, 0, 1, 1);
        int first = c.x.raw(1, 2);
        c.ok("same, tables where ints were", c.x.same(table, first), 0);
    }

    private static void compare() {
        Checks c = new Checks("promise 26, compare");
        for (int kind = 0; kind < 3; kind++) {
            int a = c.x.raw(kind, 3);
            int b = c.x.raw(kind, 2);
            c.ok("compare, more items", c.x.compare(a, b), 1);
            c.ok("compare, fewer items", c.x.compare(b, a), -1);
            c.x.put(b, 1, 0, 0, 1);
            c.ok("compare, an item ahead of how many", c.x.compare(a, b), -1);
            c.x.put(a, 1, 0, 0, -1);
            c.x.put(a, 2, 0, 0, 9);
            c.ok("compare, by sign", c.x.compare(b, a), 1);
            c.ok("compare, itself", c.x.compare(a, a), 0);
            int other = c.made(kind, 4, 4, 4, 6);
            c.x.put(other, 4, 5, 0, -1);
            c.x.put(other, 4, 6, 0, 9);
            c.ok("compare, another shape", c.x.compare(a, other), 0);
        }
        int low = c.x.raw(2, 1);
        int high = c.x.raw(2, 1);
        c.x.put(low, 0, 0, 0, Long.MIN_VALUE);
        c.x.put(high, 0, 0, 0, Long.MAX_VALUE);
        c.ok("compare, far apart", c.x.compare(low, high), -1);
        int shorter = c.x.raw(2, 1);
        int longer = c.x.raw(2, 2);
        c.x.put(longer, 0, 0, 0, 50);
        c.ok("compare, a low item first", c.x.compare(shorter, longer), -1);
        c.x.put(longer, 0, 0, 0, 0);
        c.x.put(longer, 1, 0, 0, -50);
        c.ok("compare, by how many, whatever the items", c.x.compare(longer, shorter), 1);
        int boxes = c.x.raw(3, 1);
        int table = c.made(4, 1, 1, 1, 1);
        c.stopped("compare of boxes", c.x.compare(boxes, boxes), 2);
        c.stopped("compare of tables", c.x.compare(table, table), 2);
        c.stopped("compare of unlike kinds", c.x.compare(0, low), 2);
        c.stopped("compare, no first", c.x.compare(20, low), 7);
        c.stopped("compare, no second", c.x.compare(boxes, 20), 7);
    }

    private static void clear() {
        Checks c = new Checks("promise 27, clear");
        c.due("clear(), nothing", c.x.clear(), 0);
        int longs = c.x.raw(2, 3);
        int boxes = c.x.raw(3, 3);
        int table = c.made(4, 1, 3, 1, 3);
        for (int n = 0; n < 3; n++) {
            c.x.put(longs, n, 0, 0, 5);
            c.x.put(boxes, n, 0, 0, 5);
            c.x.put(table, n + 1, 3, 0, 5);
        }
        c.x.pair(0, 0, 0, 1);
        c.shape(1, 2);
        c.beyond("get", c.x.get(longs, 3, 0, 0), 0);
        c.due("clear()", c.x.clear(), 3);
        c.due("code()", c.x.code(), 0);
        c.due("which()", c.x.which(), ArrayMaker.NONE);
        c.ok("shapeless()", c.x.shapeless(), 0);
        c.ok("pair, the first", c.x.pair(0, 0, 0, 1), 1);
        c.stopped("get, no array", c.x.get(0, 0, 0, 0), 7);
        c.due("clear()", c.x.clear(), 0);
        c.due("code()", c.x.code(), 0);
        c.ok("raw, number 0 again", c.x.raw(3, 3), 0);
        for (int n = 0; n < 3; n++) {
            c.stopped("a box is empty again", c.x.get(0, n, 0, 0), 1);
        }
        c.ok("raw, number 1 again", c.x.raw(2, 30), 1);
        c.ok("sum of new items", c.x.sum(1), 0);
        c.ok("get of a new item", c.x.get(1, 29, 0, 0), 0);
        c.due("clear(), 24", clearedFull(c), 24);
    }

    private static void manyClears() {
        Checks c = new Checks("promise 27, clear again and again");
        for (int n = 0; n < 19; n++) {
            for (int a = 0; a < 24; a++) {
                c.due("raw, as at first", c.x.raw(2, 500), a);
            }
            c.due("put", c.x.put(23, 499, 0, 0, n), 1);
            c.due("clear()", c.x.clear(), 24);
        }
    }

    private static int clearedFull(Checks c) {
        c.fillUp();
        return c.x.clear();
    }

    public static void main(String[] args) {
        sum();
        mean();
        about();
        same();
        sameBehindClear();
        compare();
        clear();
        manyClears();
        Checks.end();
    }
}
