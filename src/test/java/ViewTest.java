/** Promises 8 to 12: see, turn, cut, deep, flat. */
public final class ViewTest {
    private static final int MIN = Integer.MIN_VALUE, MAX = Integer.MAX_VALUE;

    /** Puts 1, 2, 3 .. into a three-dimensional array, by the row's order. */
    private static void count(Checks c, int a, int[] bounds) {
        int number = 1;
        for (int i = bounds[0]; i <= bounds[1]; i++) {
            for (int j = bounds[2]; j <= bounds[3]; j++) {
                for (int k = bounds[4]; k <= bounds[5]; k++) {
                    c.x.put(a, i, j, k, number);
                    number++;
                }
            }
        }
    }

    private static void see() {
        Checks c = new Checks("promise 8, see");
        int[] bounds = {-1, 0, 5, 7, 2, 3};
        int a = c.made(2, bounds);
        count(c, a, bounds);
        c.stopped("see, no dimension", c.x.see(a), 9);
        c.stopped("see, no array", c.x.see(7), 7);
        c.stopped("see, an array below 0", c.x.see(-1), 7);
        c.shape(10, 13, 1, 3);
        c.ok("see", c.x.see(a), 1);
        c.ok("THE SHAPE is used up", c.x.shapeless(), 0);
        c.ok("about KIND", c.x.about(1, 0), 2);
        c.ok("about DIMENSIONS", c.x.about(1, 1), 2);
        for (int n = 0; n < 12; n++) {
            c.ok("get by the row's order", c.x.get(1, 10 + n / 3, 1 + n % 3, 0), n + 1);
        }
        c.ok("put", c.x.put(1, 13, 3, 0, 99), 1);
        c.ok("get in the other", c.x.get(a, 0, 7, 3), 99);
        c.ok("put in the other", c.x.put(a, -1, 5, 2, 55), 1);
        c.ok("get", c.x.get(1, 10, 1, 0), 55);
        c.shape(1, 11);
        c.stopped("see, fewer", c.x.see(a), 10);
        c.shape(1, 13);
        c.stopped("see, more", c.x.see(a), 10);
        c.shape(MIN, MAX, MIN, MAX);
        c.stopped("see, beyond 64 bits", c.x.see(a), 10);
        c.ok("THE SHAPE stays", c.x.shapeless(), 2);
        int none = c.x.raw(0, 0);
        c.stopped("see, no dimension, no items", c.x.see(none), 9);
        c.shape(MIN, MAX, MIN, MAX);
        c.stopped("see, wraps to 0", c.x.see(none), 10);
        c.shape(MIN, MAX, 3, 1);
        c.ok("see of nothing", c.x.see(none), 3);
        c.ok("same", c.x.same(none, 3), 1);
        int table = c.made(4, 1, 2, 1, 2);
        c.stopped("see of tables ahead of no dimension", c.x.see(table), 2);
    }

    private static void seeWithoutRoom() {
        Checks c = new Checks("promise 8, see without room");
        c.fillUp();
        c.stopped("see, no dimension", c.x.see(0), 9);
        c.shape(1, 2);
        c.stopped("see, not as many", c.x.see(0), 10);
        c.shape(1, 1);
        c.stopped("see, no room", c.x.see(0), 8);
        c.ok("THE SHAPE stays", c.x.shapeless(), 1);
    }

    private static void turn() {
        Checks c = new Checks("promise 9, turn");
        int[] bounds = {1, 2, -1, 1, 8, 9};
        int a = c.made(0, bounds);
        count(c, a, bounds);
        c.shape(4, 4);
        c.ok("turn, three dimensions", c.x.turn(a), 1);
        c.ok("THE SHAPE is not used", c.x.shapeless(), 1);
        c.ok("about KIND", c.x.about(1, 0), 0);
        int[] turned = {-1, 1, 1, 2, 8, 9};
        for (int n = 0; n < 6; n++) {
            c.ok("about a bound", c.x.about(1, 3 + n), turned[n]);
        }
        for (int i = 1; i <= 2; i++) {
            for (int j = -1; j <= 1; j++) {
                for (int k = 8; k <= 9; k++) {
                    c.ok("get", c.x.get(1, j, i, k), c.x.get(a, i, j, k));
                }
            }
        }
        c.ok("put", c.x.put(1, -1, 1, 8, 77), 1);
        c.ok("a row of its own", c.x.get(a, 1, -1, 8), 1);
        c.ok("same", c.x.same(a, 1), 0);
        int boxes = c.made(3, 1, 2, 1, 2);
        c.x.put(boxes, 1, 2, 0, Long.MIN_VALUE);
        int other = c.x.turn(boxes);
        c.ok("get of a box", c.x.get(other, 2, 1, 0), Long.MIN_VALUE);
        c.stopped("get of a box with nothing", c.x.get(other, 1, 2, 0), 1);
        c.ok("empty", c.x.empty(other, 2, 1, 0), 1);
        c.ok("the other box stays", c.x.get(boxes, 1, 2, 0), Long.MIN_VALUE);
        int none = c.made(2, MIN, MAX, 0, 5, 1, 0);
        c.ok("turn of nothing", c.x.turn(none), none + 1);
        c.ok("about HIGH 1", c.x.about(none + 1, 6), MAX);
        int single = c.made(2, 3, 3, 4, 4);
        c.x.put(single, 3, 4, 0, 31);
        c.ok("turn of one item", c.x.get(c.x.turn(single), 4, 3, 0), 31);
        int full = c.made(2, 1, 250, 1, 2);
        c.x.put(full, 250, 1, 0, 32);
        c.ok("turn of 500 items", c.x.get(c.x.turn(full), 1, 250, 0), 32);
        int row = c.x.raw(1, 4);
        c.stopped("turn of one dimension", c.x.turn(row), 9);
        int table = c.made(4, 1, 2, 1, 2);
        c.stopped("turn of tables", c.x.turn(table), 2);
        c.stopped("turn, no array", c.x.turn(24), 7);
        while (c.x.raw(0, 1) != 0) {
            c.due("raw, code()", c.x.code(), 0);
        }
        c.stopped("turn, one dimension ahead of no room", c.x.turn(row), 9);
        c.stopped("turn, no room", c.x.turn(a), 8);
    }

    private static void cut() {
        Checks c = new Checks("promise 10, cut");
        int[] bounds = {1, 3, -1, 2, 5, 7};
        int a = c.made(1, bounds);
        count(c, a, bounds);
        c.shape(2, 3, 0, 1, 6, 7);
        c.ok("cut", c.x.cut(a), 1);
        c.ok("THE SHAPE is used up", c.x.shapeless(), 0);
        c.ok("about ITEMS", c.x.about(1, 2), 8);
        for (int i = 2; i <= 3; i++) {
            for (int j = 0; j <= 1; j++) {
                for (int k = 6; k <= 7; k++) {
                    c.ok("get", c.x.get(1, i, j, k), c.x.get(a, i, j, k));
                }
            }
        }
        c.beyond("get, cut off", c.x.get(1, 1, 0, 6), 0);
        c.ok("put", c.x.put(1, 2, 0, 6, -1), 1);
        c.ok("a row of its own", c.x.get(a, 2, 0, 6), 17);
        c.shape(1, 4, -1, 3, 5, 8);
        c.beyond("cut, the first item lacks the third", c.x.cut(a), 2);
        c.ok("THE SHAPE stays", c.x.shapeless(), 3);
        c.shape(1, 4, -1, 3, 5, 7);
        c.beyond("cut, the first item lacks the second", c.x.cut(a), 1);
        c.shape(1, 4, -1, 2, 5, 7);
        c.beyond("cut, the last lacks the first", c.x.cut(a), 0);
        c.shape(0, 4, -2, 3, 4, 8);
        c.beyond("cut, the first item lacks all", c.x.cut(a), 0);
        c.shape(1, 1, MAX, MAX, MIN, MIN);
        c.beyond("cut, at the ends of ints", c.x.cut(a), 1);
        c.shape(1, 1, 1, 1);
        c.stopped("cut, two dimensions of three", c.x.cut(a), 9);
        c.shape();
        c.stopped("cut, no dimension", c.x.cut(a), 9);
        c.shape(1, 100, 1, 6, 5, 5);
        c.stopped("cut, too many ahead of no such item", c.x.cut(a), 5);
        c.shape(MIN, MAX, MIN, MAX, 1, 0);
        c.ok("cut of nothing, out of all bounds", c.x.cut(a), 2);
        c.stopped("cut, no array", c.x.cut(3), 7);
        c.due("clear()", c.x.clear(), 3);
    }

    private static void cutKinds() {
        Checks c = new Checks("promise 10, cut of kinds");
        int boxes = c.made(3, 1, 3);
        c.x.put(boxes, 3, 0, 0, 0);
        c.shape(2, 3);
        int part = c.x.cut(boxes);
        c.stopped("get of nothing", c.x.get(part, 2, 0, 0), 1);
        c.ok("get of 0", c.x.get(part, 3, 0, 0), 0);
        c.ok("about KIND", c.x.about(part, 0), 3);
        int top = c.made(0, MAX - 2, MAX);
        c.x.put(top, MAX, 0, 0, 12);
        c.shape(MAX - 1, MAX);
        c.ok("get at the top", c.x.get(c.x.cut(top), MAX, 0, 0), 12);
        int full = c.x.raw(1, 500);
        c.x.put(full, 499, 0, 0, 44);
        c.shape(0, 499);
        c.ok("cut of all 500", c.x.get(c.x.cut(full), 499, 0, 0), 44);
        int table = c.made(4, 1, 2, 1, 2);
        c.stopped("cut of tables", c.x.cut(table), 2);
        c.fillUp();
        c.shape(0, 3);
        c.beyond("cut, no such item ahead of no room", c.x.cut(boxes), 0);
        c.shape(1, 3);
        c.stopped("cut, no room", c.x.cut(boxes), 8);
        c.ok("THE SHAPE stays", c.x.shapeless(), 1);
    }

    private static void deep() {
        Checks c = new Checks("promise 11, deep");
        int a = c.made(1, 4, 5, 7, 9);
        for (int n = 0; n < 6; n++) {
            c.x.put(a, 4 + n / 3, 7 + n % 3, 0, 10 + n);
        }
        c.shape(1, 1);
        c.ok("deep", c.x.deep(a), 1);
        c.ok("THE SHAPE is not used", c.x.shapeless(), 1);
        int[] about = {4, 2, 6, 4, 5, 7, 9};
        for (int what = 0; what < 7; what++) {
            c.ok("about", c.x.about(1, what), about[what]);
        }
        for (int n = 0; n < 6; n++) {
            c.ok("get", c.x.get(1, 4 + n / 3, 7 + n % 3, 0), 10 + n);
        }
        c.ok("put", c.x.put(1, 4, 7, 0, 1), 1);
        c.ok("rows of their own", c.x.get(a, 4, 7, 0), 10);
        c.ok("put", c.x.put(a, 5, 9, 0, 2), 1);
        c.ok("rows of their own", c.x.get(1, 5, 9, 0), 15);
        c.stopped("deep of tables", c.x.deep(1), 2);
        c.stopped("deep of longs", c.x.deep(c.made(2, 1, 2, 1, 2)), 2);
        c.stopped("deep of longs, one dimension", c.x.deep(c.x.raw(2, 2)), 2);
        c.stopped("deep of one dimension", c.x.deep(c.x.raw(1, 2)), 9);
        c.stopped("deep of three dimensions", c.x.deep(c.made(1, 1, 2, 1, 2, 1, 2)), 9);
        c.stopped("deep of 501 rows", c.x.deep(c.made(1, 0, 500, 1, 0)), 5);
        c.stopped("deep of rows beyond ints", c.x.deep(c.made(1, MIN, MAX, 1, 0)), 5);
        int rows = c.made(1, 1, 500, 1, 0);
        c.ok("deep of 500 rows", c.x.deep(rows), rows + 1);
        int none = c.made(1, 1, 0, MIN, MAX);
        c.ok("deep of no rows", c.x.deep(none), none + 1);
        c.stopped("deep, no array", c.x.deep(24), 7);
        int wide = c.made(1, 0, 500, 1, 0);
        c.fillUp();
        c.stopped("deep, too many ahead of no room", c.x.deep(wide), 5);
        c.stopped("deep, no room", c.x.deep(a), 8);
    }

    private static void flat() {
        Checks c = new Checks("promise 12, flat");
        int t = c.made(4, 1, 3, 5, 6);
        for (int n = 0; n < 6; n++) {
            c.x.put(t, 1 + n / 2, 5 + n % 2, 0, 20 + n);
        }
        c.shape(1, 1);
        c.ok("flat", c.x.flat(t), 1);
        c.ok("THE SHAPE is not used", c.x.shapeless(), 1);
        int[] about = {1, 2, 6, 1, 3, 5, 6};
        for (int what = 0; what < 7; what++) {
            c.ok("about", c.x.about(1, what), about[what]);
        }
        for (int n = 0; n < 6; n++) {
            c.ok("get", c.x.get(1, 1 + n / 2, 5 + n % 2, 0), 20 + n);
        }
        c.ok("put", c.x.put(1, 1, 5, 0, 9), 1);
        c.ok("a row of its own", c.x.get(t, 1, 5, 0), 20);
        c.x.ragged(t, 2, 3);
        c.stopped("flat, a longer row", c.x.flat(t), 11);
        c.x.without(t, 3);
        c.stopped("flat, a longer row ahead of none", c.x.flat(t), 11);
        c.x.without(t, 1);
        c.stopped("flat, no row ahead of a longer one", c.x.flat(t), 1);
        c.x.ragged(t, 1, 2);
        c.x.ragged(t, 2, 2);
        c.x.tie(t, 3, t, 1);
        c.x.put(t, 3, 6, 0, 4);
        int again = c.x.flat(t);
        c.ok("flat of tied rows", c.x.sum(again), 8);
        c.x.put(again, 1, 6, 0, 5);
        c.ok("places apart", c.x.get(again, 3, 6, 0), 4);
        c.stopped("flat of ints", c.x.flat(again), 2);
        c.stopped("flat, no array", c.x.flat(-1), 7);
        int none = c.made(4, 1, 0, MIN, MAX);
        c.ok("flat of no rows", c.x.flat(none), none + 1);
        int narrow = c.made(4, 1, 2, 1, -5);
        c.ok("flat of rows without items", c.x.about(c.x.flat(narrow), 2), 0);
        c.x.ragged(narrow, 2, 1);
        c.stopped("flat, a row with an item", c.x.flat(narrow), 11);
        c.fillUp();
        c.stopped("flat, ragged ahead of no room", c.x.flat(narrow), 11);
        c.stopped("flat, no room", c.x.flat(t), 8);
    }

    public static void main(String[] args) {
        see();
        seeWithoutRoom();
        turn();
        cut();
        cutKinds();
        deep();
        flat();
        Checks.end();
    }
}
