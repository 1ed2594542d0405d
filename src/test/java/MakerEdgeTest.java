import java.util.Arrays;

/** The edges that promises 1 to 12 name: a test for each sentence, whose words its checks bear. */
public final class MakerEdgeTest {
    private static final int MIN = Integer.MIN_VALUE, MAX = Integer.MAX_VALUE;
    private static final int BYTES = 0, INTS = 1, LONGS = 2, BOXES = 3, TABLES = 4;

    private static void newObject() {
        Checks c = new Checks("1: THE SHAPE and THE LIST are empty, no ARRAYS; CODE 0");
        c.due("code()", c.x.code(), 0);
        c.due("which()", c.x.which(), ArrayMaker.NONE);
        c.stopped("about the first", c.x.about(0, 0), 7);
        c.ok("shapeless()", c.x.shapeless(), 0);
        c.ok("raw", c.x.raw(LONGS, 1), 0);
        c.ok("gather", c.x.gather(0, 1), 0);
        c.ok("pair", c.x.pair(0, 0, 0, 0), 1);
        c.due("clear()", c.x.clear(), 1);
    }

    private static void newObjectsApart() {
        Checks one = new Checks("1: a new object, beside another one");
        one.x.range(1, 2);
        one.x.raw(INTS, 1);
        one.x.pair(0, 0, 0, 0);
        one.beyond("get", one.x.get(0, 1, 0, 0), 0);
        Checks c = new Checks("1: a new object, behind another one");
        c.due("code()", c.x.code(), 0);
        c.due("which()", c.x.which(), ArrayMaker.NONE);
        c.ok("shapeless()", c.x.shapeless(), 0);
        c.ok("pair", c.x.pair(0, 0, 0, 0), 1);
        c.due("clear()", c.x.clear(), 0);
        one.due("code() stays", one.x.code(), 3);
        one.ok("shapeless()", one.x.shapeless(), 1);
        one.ok("about ITEMS", one.x.about(0, 2), 1);
    }

    private static void codeStays() {
        Checks c = new Checks("2: CODE of the latest call (but code(), which())");
        c.stopped("raw", c.x.raw(BYTES, -1), 4);
        c.due("code()", c.x.code(), 4);
        c.due("which()", c.x.which(), ArrayMaker.NONE);
        c.due("code() behind which()", c.x.code(), 4);
        c.stopped("get", c.x.get(0, 0, 0, 0), 7);
        c.ok("shapeless()", c.x.shapeless(), 0);
        c.due("code() behind code()", c.x.code(), 0);
    }

    private static void codeNotOfOutside() {
        Checks c = new Checks("2: CODE of the latest call that was not OUTSIDE");
        c.outside("make(5) on a new object", c.x.make(5), 0);
        c.stopped("raw", c.x.raw(BYTES, 501), 5);
        c.outside("make(5)", c.x.make(5), 5);
        c.outside("raw(4, 1)", c.x.raw(4, 1), 5);
        c.stopped("get", c.x.get(0, 0, 0, 0), 7);
        c.outside("gather(0, 6)", c.x.gather(0, 6), 7);
        c.outside("join(0, 0, 6)", c.x.join(0, 0, 6), 7);
        c.outside("about(0, 9)", c.x.about(0, 9), 7);
    }

    private static void codeBehindClear() {
        Checks c = new Checks("2: (but clear())");
        c.stopped("raw", c.x.raw(BYTES, -1), 4);
        c.due("clear()", c.x.clear(), 0);
        c.due("code()", c.x.code(), 0);
    }

    /** Each call that is done has CODE 0, whatever the one ahead of it had. */
    private static void codeOfDoneCalls() {
        Checks c = new Checks("2: 0 done, behind another CODE");
        int ints = c.made(INTS, 1, 2, 1, 2);
        int table = c.made(TABLES, 1, 2, 1, 2);
        int boxes = c.x.raw(BOXES, 2);
        c.ok("range", stopAhead(c).range(1, 2), 1);
        c.ok("shapeless", stopAhead(c).shapeless(), 1);
        c.shape(1, 4);
        c.ok("see", stopAhead(c).see(ints), 3);
        c.shape(1, 4);
        c.ok("make", stopAhead(c).make(INTS), 4);
        c.ok("raw", stopAhead(c).raw(INTS, 4), 5);
        c.ok("turn", stopAhead(c).turn(ints), 6);
        c.shape(1, 1, 1, 1);
        c.ok("cut", stopAhead(c).cut(ints), 7);
        c.ok("deep", stopAhead(c).deep(ints), 8);
        c.ok("flat", stopAhead(c).flat(table), 9);
        c.ok("ragged", stopAhead(c).ragged(table, 1, 1), 1);
        c.ok("without", stopAhead(c).without(table, 1), 1);
        c.ok("tie", stopAhead(c).tie(table, 1, table, 2), 1);
        c.ok("get", stopAhead(c).get(table, 1, 1, 0), 0);
        c.ok("put", stopAhead(c).put(boxes, 1, 0, 0, 1), 1);
        c.ok("get of a box", stopAhead(c).get(boxes, 1, 0, 0), 1);
        c.ok("empty", stopAhead(c).empty(boxes, 1, 0, 0), 1);
        c.ok("pair", stopAhead(c).pair(1, 0, 0, 1), 1);
        c.ok("gather", stopAhead(c).gather(boxes, 1), 1);
        c.ok("join", stopAhead(c).join(ints, ints, 1), 4);
        c.ok("sum", stopAhead(c).sum(ints), 0);
        c.ok("sum of tables", stopAhead(c).sum(table), 0);
        c.ok("mean", stopAhead(c).mean(ints), 0);
        for (int what = 0; what <= 6; what++) {
            c.ok("about " + what, stopAhead(c).about(ints, what), new int[] {1, 2, 4, 1, 2, 1, 2}[what]);
        }
        c.ok("same", stopAhead(c).same(ints, ints), 1);
        c.ok("compare", stopAhead(c).compare(ints, ints), 0);
    }

    private static ArrayMaker stopAhead(Checks c) {
        c.stopped("raw", c.x.raw(BYTES, -1), 4);
        return c.x;
    }

    private static void whichOfNone() {
        Checks c = new Checks("3: NONE: there was none");
        c.due("which()", c.x.which(), ArrayMaker.NONE);
        c.stopped("make", c.x.make(INTS), 9);
        c.stopped("get", c.x.get(0, 0, 0, 0), 7);
        c.stopped("raw", c.x.raw(INTS, 501), 5);
        c.x.raw(BOXES, 1);
        c.stopped("get of nothing", c.x.get(0, 0, 0, 0), 1);
        c.due("which() behind other CODES", c.x.which(), ArrayMaker.NONE);
    }

    /** Every call that has CODE 3 tells its dimension. */
    private static void whichOfEach() {
        Checks c = new Checks("3: The DIMENSION (0, 1, 2) for which the latest CODE 3 was told");
        int boxes = c.made(BOXES, 1, 1, 1, 1, 1, 1);
        int table = c.made(TABLES, 1, 1, 1, 1);
        c.beyond("get, 2", c.x.get(boxes, 1, 1, 2), 2);
        c.beyond("put, 1", c.x.put(boxes, 1, 0, 2, 1), 1);
        c.beyond("empty, 0", c.x.empty(boxes, 2, 0, 2), 0);
        c.shape(1, 1, 1, 1, 0, 1);
        c.beyond("cut, 2", c.x.cut(boxes), 2);
        c.beyond("ragged, 0", c.x.ragged(table, 0, 1), 0);
        c.beyond("get of a table, 1", c.x.get(table, 1, 2, 1), 1);
        c.beyond("without, 0", c.x.without(table, 2), 0);
        c.beyond("tie, 1", c.x.tie(table, 1, table, 2), 1);
        c.beyond("tie, 0", c.x.tie(table, 2, table, 2), 0);
        c.beyond("put of a table, 1", c.x.put(table, 1, 0, 1, 1), 1);
        c.beyond("put of a table, 0", c.x.put(table, 0, 1, 1, 1), 0);
        c.x.pair(1, 1, 0, 1);
        c.beyond("gather, 2", c.x.gather(boxes, 1), 2);
    }

    private static void whichStays() {
        Checks c = new Checks("3: the latest CODE 3, behind other calls");
        int a = c.made(INTS, 1, 2, 1, 2);
        c.beyond("get", c.x.get(a, 1, 3, 0), 1);
        c.ok("get, done", c.x.get(a, 1, 2, 0), 0);
        c.due("which()", c.x.which(), 1);
        c.due("which() again", c.x.which(), 1);
        c.stopped("turn", c.x.turn(9), 7);
        c.outside("make(5)", c.x.make(5), 7);
        c.ok("shapeless()", c.x.shapeless(), 0);
        c.due("which() behind them", c.x.which(), 1);
        c.x.clear();
        c.due("which() behind clear()", c.x.which(), ArrayMaker.NONE);
    }

    private static void range() {
        Checks c = new Checks("4: A DIMENSION more of THE SHAPE: how many it has. CODE 8");
        for (int turn = 0; turn < 2; turn++) {
            c.ok("range", c.x.range(MAX, MIN), 1);
            c.ok("range", c.x.range(0, 0), 2);
            c.ok("range", c.x.range(MIN, MAX), 3);
            c.stopped("range, no room", c.x.range(1, 2), 8);
            c.stopped("range, no room still", c.x.range(MIN, MAX), 8);
            c.ok("make, which uses THE SHAPE", c.x.make(BYTES), turn);
            c.ok("about HIGH 2", c.x.about(turn, 8), MAX);
        }
    }

    private static void shapeless() {
        Checks c = new Checks("5: THE SHAPE is empty: how many DIMENSIONS it had");
        for (int had = 0; had <= 3; had++) {
            for (int n = 0; n < had; n++) {
                c.x.range(n, n);
            }
            c.ok("shapeless(), " + had, c.x.shapeless(), had);
            c.ok("shapeless(), twice", c.x.shapeless(), 0);
            c.stopped("make", c.x.make(INTS), 9);
        }
    }

    private static void makeOfOneDimension() {
        Checks c = new Checks("6: CODES 9 (no DIMENSION; TABLES: not two)");
        for (int kind = BYTES; kind <= BOXES; kind++) {
            c.stopped("make(" + kind + ")", c.x.make(kind), 9);
        }
        for (int dimensions = 1; dimensions <= 3; dimensions++) {
            for (int kind = BYTES; kind <= BOXES; kind++) {
                int a = c.made(kind, Arrays.copyOf(new int[] {1, 1, 2, 2, 3, 3}, 2 * dimensions));
                c.ok("about KIND", c.x.about(a, 0), kind);
                c.ok("about DIMENSIONS", c.x.about(a, 1), dimensions);
            }
        }
        c.stopped("make(4), none", c.x.make(TABLES), 9);
        c.shape(1, 1);
        c.stopped("make(4), one", c.x.make(TABLES), 9);
        c.shape(1, 1, 1, 1, 1, 1);
        c.stopped("make(4), three", c.x.make(TABLES), 9);
        c.shape(1, 1, 1, 1);
        c.ok("make(4), two", c.x.make(TABLES), 12);
    }

    private static void makeRowsOfTables() {
        Checks c = new Checks("6: TABLES: all its ROWS, of the LENGTH of the second DIMENSION");
        int t = c.made(TABLES, -1, 1, 5, 8);
        for (int i = -1; i <= 1; i++) {
            c.ok("put, the last of row " + i, c.x.put(t, i, 8, 0, 10 + i), 1);
            c.beyond("put, behind row " + i, c.x.put(t, i, 9, 0, 1), 1);
        }
        c.ok("about ITEMS", c.x.about(t, 2), 12);
        c.ok("sum", c.x.sum(t), 30);
        int none = c.made(TABLES, 1, 2, 1, -7);
        c.beyond("get, rows without items are there", c.x.get(none, 2, 1, 0), 1);
        c.ok("about ITEMS of them", c.x.about(none, 2), 0);
    }

    private static void makeTablesTooMany() {
        Checks c = new Checks("6: 5 (TABLES: also more than 500 ROWS)");
        c.ok("about ITEMS, 500 rows of none", c.x.about(c.made(TABLES, 1, 500, 1, 0), 2), 0);
        c.ok("about ITEMS, 500 rows of 1", c.x.about(c.made(TABLES, MIN, MIN + 499, MAX, MAX), 2), 500);
        c.ok("about ITEMS, a row of 500", c.x.about(c.made(TABLES, 1, 1, 1, 500), 2), 500);
        c.ok("about ITEMS, no row of many", c.x.about(c.made(TABLES, 1, 0, MIN, MAX), 2), 0);
        int[][] over = {{1, 501, 1, 0}, {MIN, MAX, 1, 0}, {0, MAX, MAX, MIN}, {1, 501, 1, 1}, {1, 1, 1, 501},
                {1, 167, 1, 3}, {MIN, MAX, MIN, MAX}, {1, 1, MIN, MAX}};
        for (int[] bounds : over) {
            c.shape(bounds);
            c.stopped("make of " + bounds[0] + " to " + bounds[1] + " ..", c.x.make(TABLES), 5);
        }
    }

    private static void rawEnds() {
        Checks c = new Checks("7: of one DIMENSION, from 0 to n - 1");
        for (int kind = BYTES; kind <= BOXES; kind++) {
            for (int n : new int[] {0, 1, 2, 499, 500}) {
                int a = c.x.raw(kind, n);
                c.ok("about KIND", c.x.about(a, 0), kind);
                c.ok("about DIMENSIONS", c.x.about(a, 1), 1);
                c.ok("about ITEMS", c.x.about(a, 2), n);
                c.ok("about LOW", c.x.about(a, 3), 0);
                c.ok("about HIGH", c.x.about(a, 4), n - 1);
                c.beyond("put below", c.x.put(a, -1, 0, 0, 1), 0);
                c.beyond("put behind", c.x.put(a, n, 0, 0, 1), 0);
            }
        }
    }

    private static void rawStops() {
        Checks c = new Checks("7: CODES 4, 5, 8");
        for (int kind = BYTES; kind <= BOXES; kind++) {
            c.stopped("raw of -1", c.x.raw(kind, -1), 4);
            c.stopped("raw of MIN", c.x.raw(kind, MIN), 4);
            c.stopped("raw of 501", c.x.raw(kind, 501), 5);
            c.stopped("raw of MAX", c.x.raw(kind, MAX), 5);
        }
        c.fillUp();
        c.stopped("raw of 0", c.x.raw(BYTES, 0), 8);
    }

    private static void seeWithoutItems() {
        Checks c = new Checks("8: An ARRAY with the ROW of another one, without ITEMS");
        int none = c.x.raw(BOXES, 0);
        c.shape(MIN, MAX, 1, 0, MIN, MAX);
        int seen = c.x.see(none);
        c.ok("same", c.x.same(none, seen), 1);
        c.ok("about ITEMS", c.x.about(seen, 2), 0);
        c.ok("about HIGH 2", c.x.about(seen, 8), MAX);
        c.ok("about KIND", c.x.about(seen, 0), BOXES);
        c.shape(1, 1);
        c.stopped("see, one item", c.x.see(none), 10);
        c.shape(MIN, MAX, MIN, MAX);
        c.stopped("see, as many as wrap to 0", c.x.see(none), 10);
    }

    private static void seeOf500() {
        Checks c = new Checks("8: An ARRAY with the ROW of another one, 500 ITEMS");
        int full = c.x.raw(BYTES, 500);
        c.shape(MAX - 4, MAX, MIN, MIN + 9, -5, 4);
        int seen = c.x.see(full);
        c.ok("put, the last", c.x.put(seen, MAX, MIN + 9, 4, 77), 1);
        c.ok("get, the last", c.x.get(full, 499, 0, 0), 77);
        c.shape(0, 498);
        c.stopped("see, 499", c.x.see(full), 10);
        c.shape(0, 500);
        c.stopped("see, 501", c.x.see(full), 10);
    }

    private static void seeOfWhatWasSeen() {
        Checks c = new Checks("8: An ARRAY with the ROW of another one, that has another's");
        int a = c.made(LONGS, 1, 2, 1, 3);
        c.shape(1, 6);
        int b = c.x.see(a);
        c.shape(1, 3, 1, 1, 1, 2);
        int d = c.x.see(b);
        c.ok("same", c.x.same(a, d), 1);
        c.x.put(d, 3, 1, 1, 8);
        c.ok("get", c.x.get(a, 2, 2, 0), 8);
    }

    private static void turnOfTwo() {
        Checks c = new Checks("9: its first two DIMENSIONS changed: ITEM j, i is a's i, j");
        int a = c.made(BYTES, MIN, MIN + 1, MAX - 2, MAX);
        for (int n = 0; n < 6; n++) {
            c.x.put(a, MIN + n / 3, MAX - 2 + n % 3, 0, n + 1);
        }
        int turned = c.x.turn(a);
        int[] about = {BYTES, 2, 6, MAX - 2, MAX, MIN, MIN + 1};
        for (int what = 0; what < about.length; what++) {
            c.ok("about " + what, c.x.about(turned, what), about[what]);
        }
        for (int n = 0; n < 6; n++) {
            c.ok("get " + n, c.x.get(turned, MAX - 2 + n % 3, MIN + n / 3, 0), n + 1);
        }
    }

    private static void turnOfThree() {
        Checks c = new Checks("9: (the third one stays)");
        int a = c.made(LONGS, 1, 3, 1, 2, 1, 4);
        for (int n = 0; n < 24; n++) {
            c.x.put(a, 1 + n / 8, 1 + n / 4 % 2, 1 + n % 4, n + 1);
        }
        int turned = c.x.turn(a);
        for (int n = 0; n < 24; n++) {
            c.ok("get " + n, c.x.get(turned, 1 + n / 4 % 2, 1 + n / 8, 1 + n % 4), n + 1);
        }
        c.ok("about HIGH 0", c.x.about(turned, 4), 2);
        c.ok("about HIGH 1", c.x.about(turned, 6), 3);
        c.ok("about HIGH 2", c.x.about(turned, 8), 4);
    }

    private static void turnOfOneAnd500() {
        Checks c = new Checks("9: turn of one ITEM, and of 500");
        int full = c.made(INTS, 1, 50, 1, 2, 1, 5);
        c.x.put(full, 50, 1, 5, 32);
        int turned = c.x.turn(full);
        c.ok("get, one of 500", c.x.get(turned, 1, 50, 5), 32);
        c.ok("about ITEMS", c.x.about(turned, 2), 500);
        int single = c.made(INTS, 3, 3, 4, 4);
        c.x.put(single, 3, 4, 0, 31);
        c.ok("get, one of one", c.x.get(c.x.turn(single), 4, 3, 0), 31);
    }

    private static void turnWithoutItems() {
        Checks c = new Checks("9: turn of no ITEMS");
        int[][] empty = {{1, 0, MIN, MAX}, {MIN, MAX, 1, 0}, {MIN, MAX, MIN, MAX, 1, 0}, {5, 1, 5, 1}};
        for (int[] bounds : empty) {
            int turned = c.x.turn(c.made(INTS, bounds));
            c.ok("about ITEMS", c.x.about(turned, 2), 0);
            c.ok("about LOW 0", c.x.about(turned, 3), bounds[2]);
            c.ok("about HIGH 1", c.x.about(turned, 6), bounds[1]);
        }
    }

    private static void turnHasItsOwnRow() {
        Checks c = new Checks("9: and a ROW of its own (BOXES hold the same boxes)");
        int a = c.made(BOXES, 1, 1, 1, 2);
        c.x.put(a, 1, 1, 0, Long.MAX_VALUE);
        int turned = c.x.turn(a);
        c.ok("same", c.x.same(a, turned), 0);
        c.ok("get of a number", c.x.get(turned, 1, 1, 0), Long.MAX_VALUE);
        c.stopped("get of nothing", c.x.get(turned, 2, 1, 0), 1);
        c.x.put(turned, 1, 1, 0, 3);
        c.ok("get, as it was", c.x.get(a, 1, 1, 0), Long.MAX_VALUE);
        c.x.put(a, 1, 2, 0, 4);
        c.stopped("get of nothing still", c.x.get(turned, 2, 1, 0), 1);
    }

    private static void cutOfAll() {
        Checks c = new Checks("10: each ITEM as a's with that index: all of them, and one");
        int a = c.made(INTS, MIN, MIN + 1, MAX - 1, MAX);
        c.x.put(a, MIN + 1, MAX, 0, 9);
        c.shape(MIN, MIN + 1, MAX - 1, MAX);
        int all = c.x.cut(a);
        c.ok("compare", c.x.compare(a, all), 0);
        c.ok("same: a ROW of its own", c.x.same(a, all), 0);
        c.shape(MIN + 1, MIN + 1, MAX, MAX);
        int one = c.x.cut(a);
        c.ok("get", c.x.get(one, MIN + 1, MAX, 0), 9);
        c.ok("about ITEMS", c.x.about(one, 2), 1);
        c.x.put(a, MIN + 1, MAX, 0, 8);
        c.ok("get, as it was", c.x.get(one, MIN + 1, MAX, 0), 9);
        c.x.put(one, MIN + 1, MAX, 0, 7);
        c.ok("get, as it was", c.x.get(a, MIN + 1, MAX, 0), 8);
    }

    private static void cutWithoutItems() {
        Checks c = new Checks("10: cut of no ITEMS: none that a has not");
        int a = c.made(BOXES, 1, 2, 1, 2);
        int[][] empty = {{1, 0, MIN, MAX}, {MIN, MAX, 1, 0}, {9, 8, 9, 8}, {2, 1, 1, 2}};
        for (int[] bounds : empty) {
            c.shape(bounds);
            int part = c.x.cut(a);
            c.due("cut, code()", c.x.code(), 0);
            c.ok("about ITEMS", c.x.about(part, 2), 0);
            c.ok("about HIGH 1", c.x.about(part, 6), bounds[3]);
        }
        int none = c.made(BOXES, 1, 0);
        c.shape(1, 1);
        c.beyond("cut of one from none", c.x.cut(none), 0);
        c.shape(1, 0);
        c.ok("cut of none from none", c.x.about(c.x.cut(none), 2), 0);
    }

    /** Which item comes first decides, then which of its dimensions. */
    private static void cutBeyond() {
        Checks c = new Checks("10: the first ITEM by the ROW's order that a has not; its first DIMENSION");
        int a = c.made(INTS, 1, 3, 1, 3, 1, 3);
        int[][] beyond = {{1, 4, 1, 4, 1, 4, 2}, {1, 4, 1, 4, 1, 3, 1}, {1, 4, 1, 3, 1, 3, 0},
                {0, 3, 0, 3, 0, 3, 0}, {1, 3, 0, 3, 0, 3, 1}, {1, 3, 1, 3, 0, 3, 2}, {4, 4, 4, 4, 4, 4, 0},
                {3, 4, 4, 4, 1, 1, 1}, {3, 4, 3, 3, 3, 4, 2}, {MIN, MIN, MAX, MAX, 1, 1, 0},
                {3, 3, MAX, MAX, MIN, MIN, 1}, {3, 3, 3, 3, MAX, MAX, 2}};
        for (int[] row : beyond) {
            c.shape(Arrays.copyOf(row, 6));
            c.beyond("cut of " + Arrays.toString(row), c.x.cut(a), row[6]);
        }
    }

    private static void cutTooMany() {
        Checks c = new Checks("10: CODE 5 ahead of 3");
        int a = c.x.raw(LONGS, 500);
        c.shape(0, 499);
        c.ok("about ITEMS, 500", c.x.about(c.x.cut(a), 2), 500);
        c.shape(0, 500);
        c.stopped("cut, 501", c.x.cut(a), 5);
        c.shape(1, 500);
        c.beyond("cut, 500 with one beyond", c.x.cut(a), 0);
        c.shape(MIN, MAX);
        c.stopped("cut, 32 bits", c.x.cut(a), 5);
        int b = c.made(LONGS, 1, 2, 1, 2);
        c.shape(MIN, MAX, MIN, MAX);
        c.stopped("cut, 64 bits", c.x.cut(b), 5);
    }

    private static void deepRows() {
        Checks c = new Checks("11: with the ITEMS of INTS a of two DIMENSIONS, in its SHAPE");
        int a = c.made(INTS, MIN, MIN + 1, MAX - 2, MAX);
        for (int n = 0; n < 6; n++) {
            c.x.put(a, MIN + n / 3, MAX - 2 + n % 3, 0, MIN + n);
        }
        int t = c.x.deep(a);
        int[] about = {TABLES, 2, 6, MIN, MIN + 1, MAX - 2, MAX};
        for (int what = 0; what < about.length; what++) {
            c.ok("about " + what, c.x.about(t, what), about[what]);
        }
        for (int n = 0; n < 6; n++) {
            c.ok("get " + n, c.x.get(t, MIN + n / 3, MAX - 2 + n % 3, 0), MIN + n);
        }
        c.x.put(t, MIN, MAX, 0, 3);
        c.ok("get: ROWS of their own", c.x.get(a, MIN, MAX, 0), MIN + 2);
    }

    /** The ROWS of other ARRAYS stay, whatever lies beside them. */
    private static void othersStay() {
        Checks c = new Checks("9 to 12: with a ROW of its own, beside others");
        int a = c.made(INTS, 1, 2, 1, 2);
        int table = c.made(TABLES, 1, 2, 1, 2);
        for (int call = 0; call < 4; call++) {
            int boxes = c.x.raw(BOXES, 4);
            c.shape(1, 2, 1, 2);
            int made = call == 0 ? c.x.turn(a) : call == 1 ? c.x.cut(a) : call == 2 ? c.x.deep(a) : c.x.flat(table);
            c.ok("about ITEMS", c.x.about(made, 2), 4);
            for (int n = 0; n < 4; n++) {
                c.stopped("get of a box, call " + call, c.x.get(boxes, n, 0, 0), 1);
            }
        }
    }

    private static void deepTooMany() {
        Checks c = new Checks("11: CODES 5 (more than 500 ROWS)");
        int most = c.made(INTS, 1, 500, 1, 0);
        int t = c.x.deep(most);
        c.ok("ragged, the last row", c.x.ragged(t, 500, 1), 1);
        c.ok("about ITEMS", c.x.about(c.x.deep(c.made(INTS, 1, 500, 1, 1)), 2), 500);
        c.stopped("deep, 501", c.x.deep(c.made(INTS, 1, 501, 1, 0)), 5);
        c.stopped("deep, 2^32", c.x.deep(c.made(INTS, MIN, MAX, 1, 0)), 5);
        c.stopped("deep, 2^31", c.x.deep(c.made(INTS, 0, MAX, 1, 0)), 5);
        int none = c.x.deep(c.made(INTS, MAX, MIN, MIN, MAX));
        c.ok("about ITEMS, no rows", c.x.about(none, 2), 0);
        c.beyond("ragged, no rows", c.x.ragged(none, MAX, 1), 0);
    }

    private static void deepStops() {
        Checks c = new Checks("11: CODES 2 (no INTS), 9");
        for (int kind = BYTES; kind <= TABLES; kind++) {
            int a = c.made(kind, 1, 1, 1, 1);
            c.told("deep of kind " + kind, c.x.deep(a), kind == INTS ? a + 1 : 0, kind == INTS ? 0 : 2);
        }
        c.stopped("deep of one", c.x.deep(c.made(INTS, 1, 1)), 9);
        c.stopped("deep of three", c.x.deep(c.made(INTS, 1, 1, 1, 1, 1, 1)), 9);
    }

    private static void flatRows() {
        Checks c = new Checks("12: An ARRAY of INTS with the ITEMS of TABLES a, in its SHAPE");
        int t = c.made(TABLES, MIN, MIN + 1, MAX - 2, MAX);
        for (int n = 0; n < 6; n++) {
            c.x.put(t, MIN + n / 3, MAX - 2 + n % 3, 0, MAX - n);
        }
        int a = c.x.flat(t);
        int[] about = {INTS, 2, 6, MIN, MIN + 1, MAX - 2, MAX};
        for (int what = 0; what < about.length; what++) {
            c.ok("about " + what, c.x.about(a, what), about[what]);
        }
        for (int n = 0; n < 6; n++) {
            c.ok("get " + n, c.x.get(a, MIN + n / 3, MAX - 2 + n % 3, 0), MAX - n);
        }
        c.x.put(a, MIN, MAX, 0, 3);
        c.ok("get, as it was", c.x.get(t, MIN, MAX, 0), MAX - 2);
        c.ok("about ITEMS, 500", c.x.about(c.x.flat(c.made(TABLES, 1, 500, 1, 1)), 2), 500);
        c.ok("about ITEMS, no rows", c.x.about(c.x.flat(c.made(TABLES, 1, 0, MIN, MAX)), 2), 0);
        c.ok("about ITEMS, 500 rows of none", c.x.about(c.x.flat(c.made(TABLES, 1, 500, 1, 0)), 2), 0);
    }

    private static void flatStops() {
        Checks c = new Checks("12: 1 (a ROW is nothing) or 11, whichever comes first by ROWS");
        int t = c.made(TABLES, 1, 3, 1, 2);
        c.x.without(t, 3);
        c.stopped("flat, the last is nothing", c.x.flat(t), 1);
        c.x.ragged(t, 2, 1);
        c.stopped("flat, shorter ahead of nothing", c.x.flat(t), 11);
        c.x.without(t, 1);
        c.stopped("flat, nothing ahead of shorter", c.x.flat(t), 1);
        c.x.ragged(t, 1, 2);
        c.x.ragged(t, 2, 2);
        c.x.ragged(t, 3, 3);
        c.stopped("flat, the last is longer", c.x.flat(t), 11);
        c.x.ragged(t, 3, 0);
        c.stopped("flat, the last has none", c.x.flat(t), 11);
        c.x.ragged(t, 3, 2);
        c.ok("flat, all as long", c.x.flat(t), 1);
        int none = c.made(TABLES, 1, 1, 1, 0);
        c.x.without(none, 1);
        c.stopped("flat, nothing where no items are wanted", c.x.flat(none), 1);
        int wide = c.made(TABLES, 1, 1, 1, 500);
        c.x.ragged(wide, 1, 100);
        c.stopped("flat, 100 of 500", c.x.flat(wide), 11);
    }

    public static void main(String[] args) {
        newObject();
        newObjectsApart();
        codeStays();
        codeNotOfOutside();
        codeBehindClear();
        codeOfDoneCalls();
        whichOfNone();
        whichOfEach();
        whichStays();
        range();
        shapeless();
        makeOfOneDimension();
        makeRowsOfTables();
        makeTablesTooMany();
        rawEnds();
        rawStops();
        seeWithoutItems();
        seeOf500();
        seeOfWhatWasSeen();
        turnOfTwo();
        turnOfThree();
        turnOfOneAnd500();
        turnWithoutItems();
        turnHasItsOwnRow();
        cutOfAll();
        cutWithoutItems();
        cutBeyond();
        cutTooMany();
        deepRows();
        othersStay();
        deepTooMany();
        deepStops();
        flatRows();
        flatStops();
        Checks.end();
    }
}
