/** Promises 1 to 7: a new object, code, which, range, shapeless, make, raw. */
public final class ShapeTest {
    private static final int MIN = Integer.MIN_VALUE, MAX = Integer.MAX_VALUE;

    private static void newObject() {
        Checks c = new Checks("promise 1, a new object");
        c.due("code()", c.x.code(), 0);
        c.due("which()", c.x.which(), ArrayMaker.NONE);
        c.stopped("make(0), no dimension", c.x.make(0), 9);
        c.stopped("get, no array", c.x.get(0, 0, 0, 0), 7);
        c.ok("shapeless()", c.x.shapeless(), 0);
        c.ok("pair, the first line", c.x.pair(0, 0, 0, 1), 1);
        Checks other = new Checks("promise 1, objects apart");
        other.ok("pair, the first line", other.x.pair(0, 0, 0, 1), 1);
        other.due("clear()", other.x.clear(), 0);
    }

    private static void code() {
        Checks c = new Checks("promise 2, code");
        c.stopped("get", c.x.get(5, 0, 0, 0), 7);
        c.due("which()", c.x.which(), ArrayMaker.NONE);
        c.due("code() behind which()", c.x.code(), 7);
        c.due("code() behind code()", c.x.code(), 7);
        c.outside("make(5)", c.x.make(5), 7);
        c.outside("make(-1)", c.x.make(-1), 7);
        c.outside("raw(-1, 1)", c.x.raw(-1, 1), 7);
        c.outside("gather(0, -1)", c.x.gather(0, -1), 7);
        c.outside("gather(0, 6)", c.x.gather(0, 6), 7);
        c.outside("join(0, 0, -1)", c.x.join(0, 0, -1), 7);
        c.outside("join(0, 0, 6)", c.x.join(0, 0, 6), 7);
        c.outside("about(0, -1)", c.x.about(0, -1), 7);
        c.outside("about(0, 9)", c.x.about(0, 9), 7);
        c.ok("shapeless()", c.x.shapeless(), 0);
    }

    private static void which() {
        Checks c = new Checks("promise 3, which");
        int a = c.made(1, 1, 2, -5, -4, 7, 8);
        c.beyond("get 0, -5, 7", c.x.get(a, 0, -5, 7), 0);
        c.beyond("get 1, -3, 7", c.x.get(a, 1, -3, 7), 1);
        c.beyond("get 2, -4, 9", c.x.get(a, 2, -4, 9), 2);
        c.ok("get 2, -4, 8", c.x.get(a, 2, -4, 8), 0);
        c.due("which() behind a call that was done", c.x.which(), 2);
        c.stopped("get, no array", c.x.get(9, 0, 0, 0), 7);
        c.due("which() behind another code", c.x.which(), 2);
        c.beyond("get 3, 3, 3: the first one", c.x.get(a, 3, 3, 3), 0);
        c.beyond("get 1, 3, 3: the first one", c.x.get(a, 1, 3, 3), 1);
    }

    private static void range() {
        Checks c = new Checks("promise 4, range");
        c.ok("range, first", c.x.range(MIN, MAX), 1);
        c.ok("range, second", c.x.range(3, -3), 2);
        c.ok("range, third", c.x.range(MAX, MIN), 3);
        c.stopped("range, fourth", c.x.range(0, 0), 8);
        int a = c.x.make(2);
        c.ok("about LOW 0", c.x.about(a, 3), MIN);
        c.ok("about HIGH 0", c.x.about(a, 4), MAX);
        c.ok("about LOW 1", c.x.about(a, 5), 3);
        c.ok("about HIGH 1", c.x.about(a, 6), -3);
        c.ok("about LOW 2", c.x.about(a, 7), MAX);
        c.ok("about HIGH 2", c.x.about(a, 8), MIN);
        c.ok("about ITEMS", c.x.about(a, 2), 0);
    }

    private static void shapeless() {
        Checks c = new Checks("promise 5, shapeless");
        c.ok("shapeless(), empty", c.x.shapeless(), 0);
        c.shape(1, 2, 3, 4, 5, 6);
        c.ok("shapeless(), three", c.x.shapeless(), 3);
        c.stopped("make", c.x.make(1), 9);
        c.shape(1, 2);
        c.ok("shapeless(), one", c.x.shapeless(), 1);
        c.ok("range, the first again", c.x.range(0, 0), 1);
    }

    private static void make() {
        Checks c = new Checks("promise 6, make");
        c.ok("make, number 0", c.made(0, 0, 499), 0);
        c.ok("about ITEMS", c.x.about(0, 2), 500);
        c.stopped("make, THE SHAPE is used up", c.x.make(0), 9);
        c.ok("make, number 1", c.made(3, 1, 10, 1, 10, 1, 5), 1);
        c.ok("about ITEMS", c.x.about(1, 2), 500);
        c.ok("about DIMENSIONS", c.x.about(1, 1), 3);
        c.shape(1, 501);
        c.stopped("make, 501", c.x.make(1), 5);
        c.shape(1, 3, 1, 167);
        c.stopped("make, 3 by 167", c.x.make(1), 5);
        c.ok("THE SHAPE stays", c.x.shapeless(), 2);
        c.shape(MIN, MAX, MIN, MAX);
        c.stopped("make, the lengths wrap to 0 in 64 bits", c.x.make(2), 5);
        c.shape(MIN, MAX, MIN, MAX, MIN, MAX);
        c.stopped("make, 96 bits", c.x.make(2), 5);
        c.shape(MIN, -1, 0, 1, MIN, MAX);
        c.stopped("make, 64 bits by halves", c.x.make(2), 5);
        c.ok("make, nothing at the end", c.made(2, MIN, MAX, MIN, MAX, 1, 0), 2);
        c.ok("make, nothing at the start", c.made(2, 1, 0, MIN, MAX, MIN, MAX), 3);
        c.ok("make, far below 0", c.made(2, MAX, MIN, MIN, MAX), 4);
        c.ok("about ITEMS", c.x.about(4, 2), 0);
        c.ok("make, two lengths below 0", c.made(2, 5, 0, 9, 0), 5);
        c.ok("about ITEMS of two lengths below 0", c.x.about(5, 2), 0);
        c.ok("make, at the top", c.made(1, MAX, MAX), 6);
        c.ok("put at the top", c.x.put(6, MAX, 0, 0, 5), 1);
        c.beyond("get below the top", c.x.get(6, MAX - 1, 0, 0), 0);
        c.ok("make, at the bottom", c.made(1, MIN, MIN + 1), 7);
        c.ok("put at the bottom", c.x.put(7, MIN + 1, 0, 0, 5), 1);
        c.beyond("get far from the bottom", c.x.get(7, MAX, 0, 0), 0);
    }

    private static void makeTables() {
        Checks c = new Checks("promise 6, make of TABLES");
        c.shape(1, 2);
        c.stopped("make, one dimension", c.x.make(4), 9);
        c.shape(1, 2, 1, 2, 1, 2);
        c.stopped("make, three dimensions", c.x.make(4), 9);
        c.ok("THE SHAPE stays", c.x.shapeless(), 3);
        c.shape(1, 501, 1, 0);
        c.stopped("make, 501 rows without items", c.x.make(4), 5);
        c.shape(MIN, MAX, 1, 0);
        c.stopped("make, rows beyond ints", c.x.make(4), 5);
        c.shape(1, 5, 1, 101);
        c.stopped("make, 505 items", c.x.make(4), 5);
        c.ok("make, 500 rows of 1", c.made(4, 1, 500, 1, 1), 0);
        c.ok("about ITEMS", c.x.about(0, 2), 500);
        c.ok("make, 1 row of 500", c.made(4, 1, 1, 1, 500), 1);
        c.ok("put, the last", c.x.put(1, 1, 500, 0, 8), 1);
        c.ok("make, no rows of a length beyond ints", c.made(4, 1, 0, MIN, MAX), 2);
        c.ok("about ITEMS", c.x.about(2, 2), 0);
        c.beyond("get, no row", c.x.get(2, 1, 0, 0), 0);
        c.ok("about KIND", c.x.about(2, 0), 4);
    }

    private static void makeWithoutRoom() {
        Checks c = new Checks("promise 6, make without room");
        c.fillUp();
        c.stopped("make, no dimension", c.x.make(0), 9);
        c.shape(1, 501);
        c.stopped("make, too many", c.x.make(0), 5);
        c.shape(1, 5);
        c.stopped("make, no room", c.x.make(0), 8);
        c.ok("THE SHAPE stays", c.x.shapeless(), 1);
        c.due("clear()", c.x.clear(), 24);
    }

    private static void firstItems() {
        Checks c = new Checks("terms, items at first");
        for (int kind = 0; kind < 3; kind++) {
            int a = c.made(kind, 1, 2, 1, 2);
            c.ok("get", c.x.get(a, 2, 2, 0), 0);
        }
        int boxes = c.made(3, 1, 2, 1, 2);
        c.stopped("get of a box", c.x.get(boxes, 2, 2, 0), 1);
        int table = c.made(4, 1, 2, 1, 2);
        c.ok("get of a table", c.x.get(table, 2, 2, 0), 0);
    }

    private static void raw() {
        Checks c = new Checks("promise 7, raw");
        c.shape(3, 4);
        c.ok("raw(2, 500)", c.x.raw(2, 500), 0);
        c.ok("THE SHAPE is not used", c.x.shapeless(), 1);
        c.ok("about KIND", c.x.about(0, 0), 2);
        c.ok("about DIMENSIONS", c.x.about(0, 1), 1);
        c.ok("about LOW", c.x.about(0, 3), 0);
        c.ok("about HIGH", c.x.about(0, 4), 499);
        c.ok("put, the last", c.x.put(0, 499, 0, 0, 4), 1);
        c.beyond("put, beyond", c.x.put(0, 500, 0, 0, 4), 0);
        c.ok("raw(3, 0)", c.x.raw(3, 0), 1);
        c.ok("about HIGH", c.x.about(1, 4), -1);
        c.stopped("raw(0, -1)", c.x.raw(0, -1), 4);
        c.stopped("raw(0, MIN)", c.x.raw(0, MIN), 4);
        c.stopped("raw(0, 501)", c.x.raw(0, 501), 5);
        c.stopped("raw(0, MAX)", c.x.raw(0, MAX), 5);
        c.outside("raw(4, 1)", c.x.raw(4, 1), 5);
        c.outside("raw(4, -1)", c.x.raw(4, -1), 5);
        for (int n = 2; n < 24; n++) {
            c.ok("raw", c.x.raw(n % 4, n), n);
        }
        c.stopped("raw, no room", c.x.raw(0, 1), 8);
        c.stopped("raw, below 0 ahead of no room", c.x.raw(0, -1), 4);
        c.stopped("raw, too many ahead of no room", c.x.raw(0, 501), 5);
    }

    public static void main(String[] args) {
        newObject();
        code();
        which();
        range();
        shapeless();
        make();
        makeTables();
        makeWithoutRoom();
        firstItems();
        raw();
        Checks.end();
    }
}
