/** Promises 19 to 21: pair, gather, join. */
public final class JoinTest {
    private static final long MIN = Long.MIN_VALUE, MAX = Long.MAX_VALUE;

    private static void pair() {
        Checks c = new Checks("promise 19, pair");
        for (int n = 1; n <= 30; n++) {
            c.ok("pair", c.x.pair(0, 0, 0, n), n);
        }
        c.stopped("pair, the 31st", c.x.pair(0, 0, 0, 31), 8);
        int a = c.x.raw(2, 1);
        c.ok("gather", c.x.gather(a, 1), 30);
        c.ok("get", c.x.get(a, 0, 0, 0), 465);
        c.ok("pair, the first again", c.x.pair(0, 0, 0, 1), 1);
    }

    private static void gather() {
        Checks c = new Checks("promise 20, gather");
        int a = c.made(1, 1, 2, 1, 2, 5, 6);
        c.x.pair(1, 2, 5, 40);
        c.x.pair(2, 1, 6, 50);
        c.x.pair(1, 2, 5, 2);
        c.ok("gather", c.x.gather(a, 1), 3);
        c.ok("get", c.x.get(a, 1, 2, 5), 42);
        c.ok("get", c.x.get(a, 2, 1, 6), 50);
        c.ok("gather, THE LIST is empty", c.x.gather(a, 0), 0);
        c.x.pair(1, 1, 5, 7);
        c.x.pair(1, 1, 7, 0);
        c.x.pair(1, 1, 6, 8);
        c.told("gather, no such item ahead of a division", c.x.gather(a, 4), 1, 3);
        c.due("which()", c.x.which(), 2);
        c.ok("get, done ahead", c.x.get(a, 1, 1, 5), 0);
        c.told("gather, THE LIST stays", c.x.gather(a, 0), 1, 3);
        c.ok("get, done ahead", c.x.get(a, 1, 1, 5), 7);
        c.ok("get, not done", c.x.get(a, 1, 1, 6), 0);
        c.ok("pair, behind them", c.x.pair(0, 0, 0, 0), 4);
        c.stopped("gather, no array", c.x.gather(3, 0), 7);
        int table = c.made(4, 1, 1, 1, 1);
        c.stopped("gather of tables", c.x.gather(table, 0), 2);
        c.outside("gather, way -1", c.x.gather(a, -1), 2);
        c.outside("gather, way 6", c.x.gather(9, 6), 2);
        c.ok("pair, THE LIST stays", c.x.pair(0, 0, 0, 0), 5);
    }

    private static void divisions() {
        Checks c = new Checks("promise 20, gather by 0");
        int a = c.x.raw(2, 3);
        c.x.put(a, 0, 0, 0, 17);
        c.x.pair(0, 0, 0, -5);
        c.x.pair(1, 0, 0, 0);
        c.x.pair(3, 0, 0, 0);
        c.told("gather, what is left", c.x.gather(a, 5), 1, 6);
        c.ok("get", c.x.get(a, 0, 0, 0), 2);
        c.told("gather, divided", c.x.gather(a, 4), 1, 6);
        c.ok("get", c.x.get(a, 0, 0, 0), 0);
        c.told("gather, no such item", c.x.gather(a, 1), 2, 3);
    }

    /** One item joined by one line: its new number. */
    private static void way(int kind, long o, long v, int way, long want) {
        Checks c = new Checks("terms, kind " + kind + ": " + o + " joined with " + v + " by " + way);
        int a = c.x.raw(kind, 1);
        c.x.put(a, 0, 0, 0, o);
        c.x.pair(0, 0, 0, v);
        c.ok("gather", c.x.gather(a, way), 1);
        c.ok("get", c.x.get(a, 0, 0, 0), want);
    }

    private static void ways() {
        way(2, 5, -7, 0, -7);
        way(2, MAX, 1, 1, MIN);
        way(2, -3, 4, 2, 4);
        way(2, 4, -3, 2, 4);
        way(2, -3, 4, 3, -3);
        way(2, MIN, MAX, 3, MIN);
        way(2, -7, 2, 4, -3);
        way(2, 7, -2, 4, -3);
        way(2, MIN, -1, 4, MIN);
        way(2, 7, 1, 4, 7);
        way(2, 0, 9, 4, 0);
        way(2, 7, 1, 5, 0);
        way(2, -7, 2, 5, -1);
        way(2, 7, -2, 5, 1);
        way(2, MIN, -1, 5, 0);
        way(0, 100, 100, 1, -56);
        way(0, 5, 256, 2, 0);
        way(0, 5, 256, 3, 5);
        way(0, -128, -1, 4, -128);
        way(0, 5, 256, 5, 5);
        way(0, 5, 0x1ffL, 0, -1);
        way(1, Integer.MIN_VALUE, -1, 4, Integer.MIN_VALUE);
        way(1, 1, 0x100000000L, 2, 0);
        way(1, Integer.MAX_VALUE, 1, 1, Integer.MIN_VALUE);
        way(1, 9, 0x100000000L, 4, 0);
        way(3, MAX, MAX, 1, -2);
        way(3, 9, 4, 5, 1);
    }

    private static void boxes() {
        Checks c = new Checks("terms, nothing joined");
        for (int way = 0; way <= 5; way++) {
            int a = c.x.raw(3, 1);
            c.x.pair(0, 0, 0, -8);
            c.ok("gather", c.x.gather(a, way), 1);
            c.ok("get", c.x.get(a, 0, 0, 0), -8);
            int b = c.x.raw(3, 1);
            c.x.pair(0, 0, 0, 0);
            c.ok("gather of 0: nothing is divided", c.x.gather(b, way), 1);
            c.ok("get", c.x.get(b, 0, 0, 0), 0);
        }
    }

    private static void join() {
        Checks c = new Checks("promise 21, join");
        int a = c.made(1, 1, 2, 1, 2);
        int b = c.made(1, 7, 10);
        for (int n = 0; n < 4; n++) {
            c.x.put(a, 1 + n / 2, 1 + n % 2, 0, 10 * n);
            c.x.put(b, 7 + n, 0, 0, n + 1);
        }
        c.ok("join", c.x.join(a, b, 1), 4);
        for (int n = 0; n < 4; n++) {
            c.ok("get", c.x.get(a, 1 + n / 2, 1 + n % 2, 0), 10 * n + n + 1);
            c.ok("get of the other", c.x.get(b, 7 + n, 0, 0), n + 1);
        }
        c.x.put(b, 9, 0, 0, 0);
        c.told("join, divided by 0", c.x.join(a, b, 4), 2, 6);
        c.ok("get, done ahead", c.x.get(a, 1, 2, 0), 6);
        c.ok("get, not done", c.x.get(a, 2, 2, 0), 34);
        c.told("join, left by 0", c.x.join(a, b, 5), 2, 6);
        c.ok("join with itself", c.x.join(b, b, 1), 4);
        c.ok("sum", c.x.sum(b), 14);
        c.shape(1, 4);
        int seen = c.x.see(b);
        c.ok("join with its own row", c.x.join(b, seen, 0), 4);
        c.ok("join of nothing", c.x.join(c.x.raw(0, 0), c.x.raw(0, 0), 4), 0);
    }

    private static void joinStops() {
        Checks c = new Checks("promise 21, join stopped");
        int ints = c.x.raw(1, 2);
        int longs = c.x.raw(2, 3);
        int table = c.made(4, 1, 1, 1, 2);
        c.stopped("join, no first array", c.x.join(9, ints, 0), 7);
        c.stopped("join, no second array", c.x.join(ints, 9, 0), 7);
        c.stopped("join, unlike kinds ahead of counts", c.x.join(ints, longs, 0), 2);
        c.stopped("join of tables", c.x.join(table, table, 0), 2);
        c.stopped("join with tables", c.x.join(ints, table, 0), 2);
        c.stopped("join, not as many", c.x.join(ints, c.x.raw(1, 3), 4), 10);
        c.outside("join, way 6, no array", c.x.join(9, 9, 6), 10);
        int a = c.x.raw(3, 3);
        int b = c.x.raw(3, 3);
        c.x.put(a, 1, 0, 0, 5);
        c.x.put(b, 0, 0, 0, 0);
        c.told("join, nothing divided by 0, then an item that is not there", c.x.join(a, b, 4), 1, 1);
        c.ok("get", c.x.get(a, 0, 0, 0), 0);
        c.ok("get, not done", c.x.get(a, 1, 0, 0), 5);
        c.told("join, both nothing", c.x.join(b, a, 0), 2, 1);
        c.ok("get, done ahead", c.x.get(b, 1, 0, 0), 5);
        c.stopped("get, nothing still", c.x.get(b, 2, 0, 0), 1);
    }

    public static void main(String[] args) {
        pair();
        gather();
        divisions();
        ways();
        boxes();
        join();
        joinStops();
        Checks.end();
    }
}
