/** The edges of JOINED, THE SHAPE's and THE LIST's use, and promises 19 to 21: a test for each sentence. */
public final class JoinEdgeTest {
    private static final long MIN = Long.MIN_VALUE, MAX = Long.MAX_VALUE;
    private static final int LEAST = Integer.MIN_VALUE, MOST = Integer.MAX_VALUE;
    private static final int BYTES = 0, INTS = 1, LONGS = 2, BOXES = 3, TABLES = 4;
    private static final int REPLACE = 0, ADD = 1, GREATER = 2, LESSER = 3, DIVIDE = 4, LEFT = 5;

    /** An item o of a kind, joined with v by gather; by join, too, where b can hold v. */
    private static void joined(String sentence, int kind, long o, int way, long v, long want) {
        Checks c = new Checks(sentence);
        String told = " of kind " + kind + ": " + o + " with " + v + " by " + way;
        int a = c.x.raw(kind, 1);
        c.x.put(a, 0, 0, 0, o);
        c.x.pair(0, 0, 0, v);
        c.ok("gather" + told, c.x.gather(a, way), 1);
        c.ok("get" + told, c.x.get(a, 0, 0, 0), want);
        int b = c.x.raw(kind, 1);
        c.x.put(b, 0, 0, 0, v);
        if (c.x.get(b, 0, 0, 0) == v) {
            c.x.put(a, 0, 0, 0, o);
            c.ok("join" + told, c.x.join(a, b, way), 1);
            c.ok("get behind join" + told, c.x.get(a, 0, 0, 0), want);
            c.ok("get of b" + told, c.x.get(b, 0, 0, 0), v);
        }
    }

    private static void ways() {
        String sentence = "ITEM o JOINED with v by WAYS";
        for (int kind = BYTES; kind <= BOXES; kind++) {
            joined(sentence, kind, 7, REPLACE, -2, -2);
            joined(sentence, kind, 7, ADD, -2, 5);
            joined(sentence, kind, 7, GREATER, -2, 7);
            joined(sentence, kind, -2, GREATER, 7, 7);
            joined(sentence, kind, 7, LESSER, -2, -2);
            joined(sentence, kind, -2, LESSER, 7, -2);
            joined(sentence, kind, 7, DIVIDE, 2, 3);
            joined(sentence, kind, 7, LEFT, 2, 1);
        }
    }

    private static void cutTowardsZero() {
        for (int kind = BYTES; kind <= BOXES; kind++) {
            joined("4 o / v, cut towards 0", kind, -7, DIVIDE, 2, -3);
            joined("4 o / v, cut towards 0", kind, 7, DIVIDE, -2, -3);
            joined("4 o / v, cut towards 0", kind, -7, DIVIDE, -2, 3);
            joined("4 o / v, cut towards 0", kind, -1, DIVIDE, 2, 0);
            joined("4 o / v, cut towards 0", kind, 0, DIVIDE, -5, 0);
            joined("4 o / v, cut towards 0", kind, 7, DIVIDE, 1, 7);
            joined("4 o / v, cut towards 0", kind, 7, DIVIDE, -1, -7);
            joined("5 what is left by that", kind, 7, LEFT, 1, 0);
            joined("5 what is left by that", kind, -7, LEFT, 2, -1);
            joined("5 what is left by that", kind, 7, LEFT, -2, 1);
            joined("5 what is left by that", kind, -7, LEFT, -2, -1);
            joined("5 what is left by that", kind, 1, LEFT, 5, 1);
            joined("5 what is left by that", kind, 0, LEFT, 5, 0);
        }
    }

    private static void wrapping() {
        String sentence = "all in 64 bits, wrapping";
        for (int kind = LONGS; kind <= BOXES; kind++) {
            joined(sentence, kind, MAX, ADD, 1, MIN);
            joined(sentence, kind, MIN, ADD, -1, MAX);
            joined(sentence, kind, MIN, ADD, MIN, 0);
            joined(sentence, kind, MIN, DIVIDE, -1, MIN);
            joined(sentence, kind, MIN, LEFT, -1, 0);
            joined(sentence, kind, MIN, GREATER, MAX, MAX);
            joined(sentence, kind, MIN, LESSER, MAX, MIN);
            joined(sentence, kind, MIN, DIVIDE, MAX, -1);
            joined(sentence, kind, MAX, LEFT, MIN, MAX);
        }
    }

    private static void thenAsItGoesIn() {
        String sentence = "all in 64 bits, then as it goes in";
        joined(sentence, BYTES, 127, ADD, 1, -128);
        joined(sentence, BYTES, -128, ADD, -1, 127);
        joined(sentence, BYTES, -128, DIVIDE, -1, -128);
        joined(sentence, BYTES, -128, LEFT, -1, 0);
        joined(sentence, BYTES, 5, GREATER, 256, 0);
        joined(sentence, BYTES, 5, LESSER, 256, 5);
        joined(sentence, BYTES, 5, LESSER, -256, 0);
        joined(sentence, BYTES, 5, DIVIDE, 256, 0);
        joined(sentence, BYTES, 5, LEFT, 256, 5);
        joined(sentence, BYTES, 5, REPLACE, 0x180, -128);
        joined(sentence, INTS, MOST, ADD, 1, LEAST);
        joined(sentence, INTS, LEAST, ADD, -1, MOST);
        joined(sentence, INTS, LEAST, DIVIDE, -1, LEAST);
        joined(sentence, INTS, LEAST, LEFT, -1, 0);
        joined(sentence, INTS, 5, GREATER, 1L << 32, 0);
        joined(sentence, INTS, 5, LESSER, 1L << 32, 5);
        joined(sentence, INTS, 5, LESSER, -1L << 32, 0);
        joined(sentence, INTS, 5, DIVIDE, 1L << 32, 0);
        joined(sentence, INTS, 5, LEFT, 1L << 32, 5);
        joined(sentence, INTS, 5, REPLACE, 1L << 31, LEAST);
    }

    private static void dividedByZero() {
        for (int kind = BYTES; kind <= BOXES; kind++) {
            for (int way = DIVIDE; way <= LEFT; way++) {
                Checks c = new Checks("6 divided by 0, kind " + kind + ", way " + way);
                int a = c.x.raw(kind, 1);
                int b = c.x.raw(kind, 1);
                c.x.put(a, 0, 0, 0, 5);
                c.x.put(b, 0, 0, 0, 0);
                c.x.pair(0, 0, 0, 0);
                c.stopped("gather", c.x.gather(a, way), 6);
                c.stopped("join", c.x.join(a, b, way), 6);
                c.ok("get, as it was", c.x.get(a, 0, 0, 0), 5);
                c.x.put(a, 0, 0, 0, 0);
                c.stopped("gather, 0 by 0", c.x.gather(a, way), 6);
                c.stopped("join, 0 by 0", c.x.join(a, b, way), 6);
                c.due("which()", c.x.which(), ArrayMaker.NONE);
            }
        }
    }

    private static void zeroByOtherWays() {
        for (int kind = BYTES; kind <= BOXES; kind++) {
            joined("0 as v", kind, 5, REPLACE, 0, 0);
            joined("0 as v", kind, 5, ADD, 0, 5);
            joined("0 as v", kind, 5, GREATER, 0, 5);
            joined("0 as v", kind, -5, GREATER, 0, 0);
            joined("0 as v", kind, 5, LESSER, 0, 0);
        }
    }

    private static void nothingJoined() {
        for (int way = REPLACE; way <= LEFT; way++) {
            for (long v : new long[] {0, 1, -1, MIN, MAX}) {
                Checks c = new Checks("Nothing in BOXES JOINED is v: " + v + " by " + way);
                int a = c.x.raw(BOXES, 1);
                c.x.pair(0, 0, 0, v);
                c.ok("gather", c.x.gather(a, way), 1);
                c.ok("get", c.x.get(a, 0, 0, 0), v);
                c.x.empty(a, 0, 0, 0);
                int b = c.x.raw(BOXES, 1);
                c.x.put(b, 0, 0, 0, v);
                c.ok("join", c.x.join(a, b, way), 1);
                c.ok("get", c.x.get(a, 0, 0, 0), v);
            }
        }
    }

    private static void pairs30() {
        Checks c = new Checks("19: A line behind THE LIST (30 at most): how many it has. CODE 8");
        int a = c.x.raw(LONGS, 31);
        for (int turn = 0; turn < 2; turn++) {
            for (int n = 1; n <= 30; n++) {
                c.ok("pair", c.x.pair(n - 1, LEAST, MOST, n), n);
            }
            c.stopped("pair, the 31st", c.x.pair(30, 0, 0, 99), 8);
            c.stopped("pair, again", c.x.pair(30, 0, 0, 99), 8);
            c.ok("gather", c.x.gather(a, ADD), 30);
            c.ok("get, the first", c.x.get(a, 0, 0, 0), turn + 1);
            c.ok("get, the last", c.x.get(a, 29, 0, 0), 30 * (turn + 1));
            c.ok("get, what found no room", c.x.get(a, 30, 0, 0), 0);
        }
    }

    private static void linesInOrder() {
        Checks c = new Checks("20: THE LIST's lines, in order");
        int a = c.x.raw(INTS, 1);
        c.x.pair(0, 0, 0, 3);
        c.x.pair(0, 0, 0, 9);
        c.x.pair(0, 0, 0, 4);
        c.ok("gather", c.x.gather(a, REPLACE), 3);
        c.ok("get, the last one's", c.x.get(a, 0, 0, 0), 4);
        c.x.put(a, 0, 0, 0, 100);
        c.x.pair(0, 0, 0, 7);
        c.x.pair(0, 0, 0, 3);
        c.ok("gather", c.x.gather(a, LEFT), 2);
        c.ok("get, left by 7, then by 3", c.x.get(a, 0, 0, 0), 2);
    }

    private static void gatherOfNoLine() {
        Checks c = new Checks("20: how many were done: none");
        int none = c.x.raw(BYTES, 0);
        c.ok("gather", c.x.gather(none, DIVIDE), 0);
        c.stopped("gather, no array", c.x.gather(1, ADD), 7);
        int t = c.made(TABLES, 1, 1, 1, 1);
        c.stopped("gather of TABLES", c.x.gather(t, ADD), 2);
        c.x.pair(0, 0, 0, 1);
        c.beyond("gather, no item", c.x.gather(none, ADD), 0);
    }

    /** The line that stops it, at the start, within and at the end of THE LIST. */
    private static void gatherStopsAtLine() {
        for (int at = 0; at < 3; at++) {
            Checks c = new Checks("20: 3 at a line: those ahead of it are done (and told), line " + at);
            int a = c.made(INTS, 1, 3, 1, 1);
            for (int n = 0; n < 3; n++) {
                c.x.pair(n + 1, n == at ? 2 : 1, 0, 10 + n);
            }
            c.told("gather", c.x.gather(a, ADD), at, 3);
            c.due("which()", c.x.which(), 1);
            for (int n = 0; n < 3; n++) {
                c.ok("get " + n, c.x.get(a, n + 1, 1, 0), n < at ? 10 + n : 0);
            }
            c.ok("pair: THE LIST stays", c.x.pair(1, 1, 0, 0), 4);
            c.told("gather again", c.x.gather(a, ADD), at, 3);
            c.ok("get, done again", c.x.get(a, 1, 1, 0), at > 0 ? 20 : 0);
        }
    }

    private static void gatherStopsByZero() {
        for (int at = 0; at < 3; at++) {
            Checks c = new Checks("20: 6 at a line: those ahead of it are done (and told), line " + at);
            int a = c.x.raw(LONGS, 3);
            for (int n = 0; n < 3; n++) {
                c.x.put(a, n, 0, 0, 100);
                c.x.pair(n, 0, 0, n == at ? 0 : 7);
            }
            c.told("gather", c.x.gather(a, LEFT), at, 6);
            for (int n = 0; n < 3; n++) {
                c.ok("get " + n, c.x.get(a, n, 0, 0), n < at ? 2 : 100);
            }
            c.ok("pair: THE LIST stays", c.x.pair(0, 0, 0, 0), 4);
            c.ok("gather by another way", c.x.gather(a, ADD), 4);
            c.ok("pair: THE LIST is empty then", c.x.pair(0, 0, 0, 0), 1);
        }
    }

    private static void gatherThreeAheadOfSix() {
        Checks c = new Checks("20: 3, 6, at a line");
        int a = c.x.raw(INTS, 2);
        c.x.pair(2, 0, 0, 0);
        c.beyond("gather, both at one line", c.x.gather(a, DIVIDE), 0);
        Checks d = new Checks("20: 3, 6, at two lines");
        int b = d.x.raw(INTS, 2);
        d.x.pair(0, 0, 0, 0);
        d.x.pair(2, 0, 0, 1);
        d.stopped("gather, the first line", d.x.gather(b, DIVIDE), 6);
    }

    private static void joinPlaces() {
        Checks c = new Checks("21: that lie at the same places of its ROW");
        int a = c.made(LONGS, LEAST, LEAST + 1, MOST - 2, MOST);
        int b = c.made(LONGS, 1, 3, 1, 1, 1, 2);
        for (int n = 0; n < 6; n++) {
            c.x.put(b, 1 + n / 2, 1, 1 + n % 2, n + 1);
        }
        c.ok("join", c.x.join(a, b, ADD), 6);
        for (int n = 0; n < 6; n++) {
            c.ok("get " + n, c.x.get(a, LEAST + n / 3, MOST - 2 + n % 3, 0), n + 1);
        }
    }

    private static void joinOfNone() {
        Checks c = new Checks("21: how many were done: none, and 500");
        for (int kind = BYTES; kind <= BOXES; kind++) {
            int none = c.made(kind, LEAST, MOST, 1, 0);
            c.ok("join of none", c.x.join(none, c.x.raw(kind, 0), DIVIDE), 0);
            c.stopped("join of none with one", c.x.join(none, c.x.raw(kind, 1), ADD), 10);
        }
        int a = c.x.raw(BYTES, 500);
        int b = c.made(BYTES, 1, 500);
        c.x.put(b, 500, 0, 0, 3);
        c.ok("join of 500", c.x.join(a, b, ADD), 500);
        c.ok("get, the last", c.x.get(a, 499, 0, 0), 3);
        c.stopped("join of 500 with 499", c.x.join(a, c.x.raw(BYTES, 499), ADD), 10);
    }

    private static void joinWithItself() {
        Checks c = new Checks("21: All ITEMS of ARRAY a, with those of b, that has the same ROW");
        int a = c.x.raw(INTS, 3);
        c.shape(1, 3, 1, 1);
        int b = c.x.see(a);
        for (int n = 0; n < 3; n++) {
            c.x.put(a, n, 0, 0, n + 5);
        }
        c.ok("join, doubled", c.x.join(a, b, ADD), 3);
        c.ok("sum", c.x.sum(a), 36);
        c.ok("join, by itself", c.x.join(b, b, DIVIDE), 3);
        c.ok("sum", c.x.sum(a), 3);
        c.ok("join, left by itself", c.x.join(b, a, LEFT), 3);
        c.stopped("join, now by 0", c.x.join(b, a, LEFT), 6);
    }

    private static void joinStopsAtNothing() {
        for (int at = 0; at < 3; at++) {
            Checks c = new Checks("21: 1 (an ITEM of b): those ahead are done (and told), " + at);
            int a = c.x.raw(BOXES, 3);
            int b = c.x.raw(BOXES, 3);
            for (int n = 0; n < 3; n++) {
                c.x.put(a, n, 0, 0, 10);
                c.x.put(b, n, 0, 0, 1);
            }
            c.x.empty(b, at, 0, 0);
            c.told("join", c.x.join(a, b, ADD), at, 1);
            for (int n = 0; n < 3; n++) {
                c.ok("get " + n, c.x.get(a, n, 0, 0), n < at ? 11 : 10);
            }
            c.told("join by WAY 0", c.x.join(a, b, REPLACE), at, 1);
            c.stopped("get of b, nothing still", c.x.get(b, at, 0, 0), 1);
        }
    }

    private static void joinStopsByZero() {
        for (int at = 0; at < 3; at++) {
            Checks c = new Checks("21: 6: those ahead are done (and told), " + at);
            int a = c.x.raw(BYTES, 3);
            int b = c.x.raw(BYTES, 3);
            for (int n = 0; n < 3; n++) {
                c.x.put(a, n, 0, 0, 100);
                c.x.put(b, n, 0, 0, n == at ? 0 : 7);
            }
            c.told("join", c.x.join(a, b, DIVIDE), at, 6);
            for (int n = 0; n < 3; n++) {
                c.ok("get " + n, c.x.get(a, n, 0, 0), n < at ? 14 : 100);
            }
        }
    }

    private static void joinOneAndSix() {
        Checks c = new Checks("21: 1, 6: those ahead are done");
        int a = c.x.raw(BOXES, 2);
        int b = c.x.raw(BOXES, 2);
        c.x.put(a, 0, 0, 0, 4);
        c.x.put(a, 1, 0, 0, 4);
        c.x.put(b, 0, 0, 0, 0);
        c.stopped("join, 6 lies ahead of 1", c.x.join(a, b, DIVIDE), 6);
        c.x.put(b, 1, 0, 0, 0);
        c.x.empty(b, 0, 0, 0);
        c.stopped("join, 1 lies ahead of 6", c.x.join(a, b, DIVIDE), 1);
    }

    private static void joinKinds() {
        Checks c = new Checks("21: 2 (unlike KINDS, TABLES)");
        for (int kind = BYTES; kind <= TABLES; kind++) {
            int a = c.made(kind, 1, 1, 1, 1);
            c.x.put(a, 1, 1, 0, 1);
        }
        for (int a = BYTES; a <= TABLES; a++) {
            for (int b = BYTES; b <= TABLES; b++) {
                boolean alike = a == b && a != TABLES;
                c.told("join of " + a + " and " + b, c.x.join(a, b, ADD), alike ? 1 : 0, alike ? 0 : 2);
            }
        }
    }

    /** One line and a shape that fits every call; how many dimensions and lines are left behind it. */
    private static void left(Checks c, String call, long answer, int dimensions, int lines) {
        c.due(call + ", code()", c.x.code(), 0);
        c.ok(call + " answered " + answer + ", shapeless()", c.x.shapeless(), dimensions);
        c.ok(call + ", pair()", c.x.pair(1, 1, 0, 0), lines + 1);
        c.ok("gather, to have THE LIST empty", c.x.gather(0, ADD), lines + 1);
        c.shape(1, 1, 1, 1);
        c.x.pair(1, 1, 0, 0);
    }

    private static void emptyThen() {
        Checks c = new Checks("where a call is done that uses them, they are empty then");
        int a = c.made(INTS, 1, 1, 1, 1);
        c.shape(1, 1, 1, 1);
        c.x.pair(1, 1, 0, 0);
        left(c, "make", c.x.make(BOXES), 0, 1);
        left(c, "make of TABLES", c.x.make(TABLES), 0, 1);
        left(c, "see", c.x.see(a), 0, 1);
        left(c, "cut", c.x.cut(a), 0, 1);
        left(c, "gather", c.x.gather(a, ADD), 2, 0);
    }

    private static void theyStay() {
        Checks c = new Checks("THE SHAPE, THE LIST stay, where a call does not use them");
        int a = c.made(INTS, 1, 1, 1, 1);
        int t = c.made(TABLES, 1, 1, 1, 1);
        int boxes = c.made(BOXES, 1, 1, 1, 1);
        c.shape(1, 1, 1, 1);
        c.x.pair(1, 1, 0, 0);
        left(c, "raw", c.x.raw(BYTES, 3), 2, 1);
        left(c, "turn", c.x.turn(a), 2, 1);
        left(c, "deep", c.x.deep(a), 2, 1);
        left(c, "flat", c.x.flat(t), 2, 1);
        left(c, "ragged", c.x.ragged(t, 1, 1), 2, 1);
        left(c, "tie", c.x.tie(t, 1, t, 1), 2, 1);
        left(c, "without", c.x.without(t, 1), 2, 1);
        left(c, "put", c.x.put(boxes, 1, 1, 0, 1), 2, 1);
        left(c, "get", c.x.get(boxes, 1, 1, 0), 2, 1);
        left(c, "join", c.x.join(a, a, ADD), 2, 1);
        left(c, "empty", c.x.empty(boxes, 1, 1, 0), 2, 1);
        left(c, "sum", c.x.sum(a), 2, 1);
        left(c, "mean", c.x.mean(a), 2, 1);
        left(c, "about", c.x.about(a, 0), 2, 1);
        left(c, "same", c.x.same(a, a), 2, 1);
        left(c, "compare", c.x.compare(a, a), 2, 1);
        left(c, "range", c.x.range(1, 1), 3, 1);
        left(c, "shapeless", c.x.shapeless(), 0, 1);
        left(c, "pair", c.x.pair(1, 1, 0, 0), 2, 2);
    }

    public static void main(String[] args) {
        ways();
        cutTowardsZero();
        wrapping();
        thenAsItGoesIn();
        dividedByZero();
        zeroByOtherWays();
        nothingJoined();
        pairs30();
        linesInOrder();
        gatherOfNoLine();
        gatherStopsAtLine();
        gatherStopsByZero();
        gatherThreeAheadOfSix();
        joinPlaces();
        joinOfNone();
        joinWithItself();
        joinStopsAtNothing();
        joinStopsByZero();
        joinOneAndSix();
        joinKinds();
        emptyThen();
        theyStay();
        Checks.end();
    }
}
