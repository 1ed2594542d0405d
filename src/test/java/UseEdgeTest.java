import java.util.Arrays;

/** The edges that promises 13 to 18 and 22 to 27 name: a test for each sentence, whose words its checks bear. */
public final class UseEdgeTest {
    private static final int MIN = Integer.MIN_VALUE, MAX = Integer.MAX_VALUE;
    private static final int BYTES = 0, INTS = 1, LONGS = 2, BOXES = 3, TABLES = 4;

    private static void raggedLengths() {
        Checks c = new Checks("13: CODES 4, 5 (n above 100)");
        int t = c.made(TABLES, 1, 2, 1, 2);
        int[] lengths = {0, 1, 99, 100};
        for (int n : lengths) {
            c.ok("ragged, " + n, c.x.ragged(t, 1, n), 1);
            c.ok("about ITEMS", c.x.about(t, 2), n + 2);
            c.beyond("get behind the row", c.x.get(t, 1, 1 + n, 0), 1);
        }
        c.stopped("ragged, 101", c.x.ragged(t, 1, 101), 5);
        c.stopped("ragged, MAX", c.x.ragged(t, 1, MAX), 5);
        c.stopped("ragged, -1", c.x.ragged(t, 1, -1), 4);
        c.stopped("ragged, MIN", c.x.ragged(t, 1, MIN), 4);
        c.ok("about ITEMS, as they were", c.x.about(t, 2), 102);
    }

    private static void raggedIndexes() {
        Checks c = new Checks("13: ROW i (an index), 3 (0)");
        int t = c.made(TABLES, -2, 1, 5, 5);
        c.beyond("get, to have which() 1", c.x.get(t, 0, 6, 0), 1);
        c.beyond("ragged, below", c.x.ragged(t, -3, 1), 0);
        c.beyond("ragged, above", c.x.ragged(t, 2, 1), 0);
        c.beyond("ragged, MIN", c.x.ragged(t, MIN, 1), 0);
        c.beyond("ragged, MAX", c.x.ragged(t, MAX, 1), 0);
        c.ok("ragged, the first", c.x.ragged(t, -2, 3), 1);
        c.ok("ragged, the last", c.x.ragged(t, 1, 3), 1);
        c.ok("put, the first", c.x.put(t, -2, 7, 0, 1), 1);
        c.ok("put, the last", c.x.put(t, 1, 7, 0, 1), 1);
        c.beyond("put, another one", c.x.put(t, 0, 7, 0, 1), 1);
    }

    private static void raggedIsNew() {
        Checks c = new Checks("13: ROW i of TABLES is a new one of n INTS");
        int t = c.made(TABLES, 1, 2, 1, 1);
        c.x.put(t, 1, 1, 0, 7);
        c.x.tie(t, 2, t, 1);
        c.ok("ragged, as long as it was", c.x.ragged(t, 1, 1), 1);
        c.ok("get, 0 at first", c.x.get(t, 1, 1, 0), 0);
        c.ok("get, the tied one stays", c.x.get(t, 2, 1, 0), 7);
        c.x.put(t, 1, 1, 0, MAX + 1L);
        c.ok("get, INTS", c.x.get(t, 1, 1, 0), MIN);
        c.ok("get, the tied one stays", c.x.get(t, 2, 1, 0), 7);
        c.x.without(t, 1);
        c.ok("ragged, where nothing was", c.x.ragged(t, 1, 1), 1);
        c.ok("get", c.x.get(t, 1, 1, 0), 0);
    }

    /** More items than 500 may be in a table's rows together. */
    private static void raggedBeyond500() {
        Checks c = new Checks("13: 5 (n above 100) alone");
        int t = c.made(TABLES, 1, 10, 1, 50);
        for (int i = 1; i <= 10; i++) {
            c.ok("ragged", c.x.ragged(t, i, 100), 1);
        }
        c.ok("about ITEMS", c.x.about(t, 2), 1000);
        c.fillUp();
        c.ok("ragged, when no ARRAY has room", c.x.ragged(t, 1, 99), 1);
    }

    private static void without() {
        Checks c = new Checks("14: ROW i (an index) of TABLES is nothing");
        int t = c.made(TABLES, -1, 1, 1, 1);
        c.x.put(t, 1, 1, 0, 7);
        c.x.tie(t, 0, t, 1);
        c.ok("without, the last", c.x.without(t, 1), 1);
        c.ok("get, the tied one stays", c.x.get(t, 0, 1, 0), 7);
        c.ok("without, again", c.x.without(t, 1), 1);
        c.ok("without, the first", c.x.without(t, -1), 1);
        c.stopped("get, the first", c.x.get(t, -1, 1, 0), 1);
        c.stopped("get, the last", c.x.get(t, 1, 1, 0), 1);
        c.ok("about ITEMS", c.x.about(t, 2), 1);
        c.beyond("get, to have which() 1", c.x.get(t, 0, 6, 0), 1);
        for (int i : new int[] {-2, 2, MIN, MAX}) {
            c.beyond("without " + i, c.x.without(t, i), 0);
        }
    }

    private static void tieStops() {
        Checks c = new Checks("15: 3 (of a: 0, then of b: 1)");
        int a = c.made(TABLES, 1, 2, 1, 1);
        int b = c.made(TABLES, -2, -1, 1, 1);
        for (int i : new int[] {0, 3, MIN, MAX}) {
            c.beyond("tie, of a " + i, c.x.tie(a, i, b, -1), 0);
            c.beyond("tie, of both " + i, c.x.tie(a, i, b, i), 0);
        }
        for (int h : new int[] {-3, 0, MIN, MAX}) {
            c.beyond("tie, of b " + h, c.x.tie(a, 1, b, h), 1);
        }
        c.ok("tie, first with last", c.x.tie(a, 1, b, -1), 1);
        c.ok("tie, last with first", c.x.tie(a, 2, b, -2), 1);
        c.ok("tie, with an index of a's own", c.x.tie(a, 1, a, 2), 1);
        c.beyond("tie, b's index is not looked up in a", c.x.tie(a, 1, b, 1), 1);
    }

    private static void tieFromNowOn() {
        Checks c = new Checks("15: from now on that of index h of TABLES b");
        int a = c.made(TABLES, 1, 1, 100, 100);
        int b = c.made(TABLES, 1, 2, 7, 9);
        c.x.tie(a, 1, b, 2);
        c.x.put(b, 2, 9, 0, 5);
        c.ok("get, what was put later", c.x.get(a, 1, 102, 0), 5);
        c.x.put(a, 1, 100, 0, 6);
        c.ok("get, the other way", c.x.get(b, 2, 7, 0), 6);
        c.x.tie(b, 1, a, 1);
        c.ok("get, tied to what was tied", c.x.get(b, 1, 9, 0), 5);
        c.x.without(b, 2);
        c.ok("get, the ROW stays", c.x.get(a, 1, 102, 0), 5);
        c.ok("tie to nothing", c.x.tie(a, 1, b, 2), 1);
        c.stopped("get of nothing", c.x.get(a, 1, 100, 0), 1);
        c.ok("ragged there", c.x.ragged(a, 1, 1), 1);
        c.stopped("get, nothing stays", c.x.get(b, 2, 7, 0), 1);
    }

    private static void getOfTables() {
        Checks c = new Checks("16: 1 (a ROW of TABLES, ahead of 3 of j; a BOX)");
        int t = c.made(TABLES, 1, 2, 1, 2);
        c.x.without(t, 2);
        c.stopped("get, j is there", c.x.get(t, 2, 1, 0), 1);
        c.stopped("get, j is beyond", c.x.get(t, 2, 3, 0), 1);
        c.stopped("get, j is below", c.x.get(t, 2, MIN, 0), 1);
        c.due("which()", c.x.which(), ArrayMaker.NONE);
        c.beyond("get, i is beyond", c.x.get(t, 3, 3, 0), 0);
        c.beyond("get, j is beyond, of a ROW", c.x.get(t, 1, 3, 0), 1);
        int boxes = c.x.raw(BOXES, 1);
        c.stopped("get, a BOX", c.x.get(boxes, 0, 0, 0), 1);
        c.beyond("get, beyond the BOX", c.x.get(boxes, 1, 0, 0), 0);
        c.x.put(boxes, 0, 0, 0, 0);
        c.ok("get, a BOX with 0", c.x.get(boxes, 0, 0, 0), 0);
    }

    private static void putOfTables() {
        Checks c = new Checks("17: 1 (a ROW of TABLES, ahead of 3 of j)");
        int t = c.made(TABLES, 1, 2, 1, 2);
        c.x.without(t, 2);
        c.stopped("put, j is there", c.x.put(t, 2, 1, 0, 1), 1);
        c.stopped("put, j is beyond", c.x.put(t, 2, 3, 0, 1), 1);
        c.due("which()", c.x.which(), ArrayMaker.NONE);
        c.beyond("put, i is beyond", c.x.put(t, 0, 3, 0, 1), 0);
        c.beyond("put, j is beyond, of a ROW", c.x.put(t, 1, 3, 0, 1), 1);
        c.ok("put, a BOX with nothing", c.x.put(c.x.raw(BOXES, 1), 0, 0, 0, 1), 1);
    }

    private static void empty() {
        Checks c = new Checks("18: A BOX holds nothing");
        int a = c.made(BOXES, 1, 1, 1, 1, 1, 2);
        c.ok("empty, nothing in it", c.x.empty(a, 1, 1, 1), 1);
        c.x.put(a, 1, 1, 2, 0);
        c.ok("empty, 0 in it", c.x.empty(a, 1, 1, 2), 1);
        c.stopped("get", c.x.get(a, 1, 1, 2), 1);
        c.ok("put, again", c.x.put(a, 1, 1, 2, 8), 1);
        c.ok("get", c.x.get(a, 1, 1, 2), 8);
        for (int kind : new int[] {BYTES, INTS, LONGS, TABLES}) {
            c.stopped("empty of kind " + kind, c.x.empty(c.made(kind, 1, 1, 1, 1), 1, 1, 0), 2);
        }
    }

    private static void sums() {
        Checks c = new Checks("22: The sum of all ITEMS (64 bits, wrapping; nothing counts 0)");
        for (int kind = BYTES; kind <= BOXES; kind++) {
            c.ok("sum of no items, kind " + kind, c.x.sum(c.x.raw(kind, 0)), 0);
        }
        for (int kind : new int[] {LONGS, BOXES}) {
            int a = c.x.raw(kind, 3);
            c.x.put(a, 0, 0, 0, Long.MAX_VALUE);
            c.x.put(a, 2, 0, 0, 1);
            c.ok("sum, wrapping up, kind " + kind, c.x.sum(a), Long.MIN_VALUE);
            c.x.put(a, 0, 0, 0, Long.MIN_VALUE);
            c.x.put(a, 2, 0, 0, -1);
            c.ok("sum, wrapping down, kind " + kind, c.x.sum(a), Long.MAX_VALUE);
        }
        int boxes = c.x.raw(BOXES, 2);
        c.x.put(boxes, 0, 0, 0, 9);
        c.x.empty(boxes, 0, 0, 0);
        c.ok("sum of what is empty again", c.x.sum(boxes), 0);
        int ints = c.x.raw(INTS, 2);
        c.x.put(ints, 0, 0, 0, MIN);
        c.x.put(ints, 1, 0, 0, -1);
        c.ok("sum of INTS does not wrap in 32 bits", c.x.sum(ints), MIN - 1L);
    }

    private static void sumsOfTables() {
        Checks c = new Checks("22: of TABLES all of all ROWS");
        c.ok("sum of no rows", c.x.sum(c.made(TABLES, 1, 0, MIN, MAX)), 0);
        int t = c.made(TABLES, 1, 3, 1, 2);
        c.x.put(t, 1, 2, 0, MAX);
        c.x.put(t, 3, 1, 0, MAX);
        c.ok("sum, above 32 bits", c.x.sum(t), 2L * MAX);
        c.x.ragged(t, 2, 5);
        c.x.put(t, 2, 5, 0, 4);
        c.ok("sum, behind HIGH", c.x.sum(t), 2L * MAX + 4);
        c.x.tie(t, 1, t, 2);
        c.ok("sum, a ROW twice", c.x.sum(t), MAX + 8L);
        c.x.without(t, 3);
        c.ok("sum, a ROW is nothing", c.x.sum(t), 8);
        c.x.without(t, 1);
        c.x.without(t, 2);
        c.ok("sum, all are nothing", c.x.sum(t), 0);
    }

    private static void meanTowardsZero() {
        Checks c = new Checks("23: by how many ITEMS there are, cut towards 0");
        for (int kind = BYTES; kind <= LONGS; kind++) {
            int a = c.x.raw(kind, 3);
            int[] sums = {-4, -3, -2, -1, 0, 1, 2, 3, 4};
            int[] means = {-1, -1, 0, 0, 0, 0, 0, 1, 1};
            for (int n = 0; n < sums.length; n++) {
                c.x.put(a, 1, 0, 0, sums[n]);
                c.ok("mean, sum " + sums[n] + ", kind " + kind, c.x.mean(a), means[n]);
            }
            int one = c.made(kind, 7, 7, 7, 7);
            c.x.put(one, 7, 7, 0, -1);
            c.ok("mean of one", c.x.mean(one), -1);
        }
        int wide = c.x.raw(LONGS, 1);
        c.x.put(wide, 0, 0, 0, Long.MIN_VALUE);
        c.ok("mean, the least of 64 bits", c.x.mean(wide), Long.MIN_VALUE);
        int two = c.x.raw(LONGS, 2);
        c.x.put(two, 0, 0, 0, Long.MAX_VALUE);
        c.x.put(two, 1, 0, 0, 3);
        c.ok("mean of a sum that wraps", c.x.mean(two), (Long.MIN_VALUE + 2) / 2);
    }

    private static void meanStops() {
        Checks c = new Checks("23: CODES 7, 2, 6");
        for (int kind = BYTES; kind <= LONGS; kind++) {
            c.stopped("mean of no items, kind " + kind, c.x.mean(c.x.raw(kind, 0)), 6);
            c.stopped("mean of a wide shape, kind " + kind, c.x.mean(c.made(kind, MIN, MAX, 1, 0)), 6);
        }
        c.stopped("mean of BOXES", c.x.mean(c.x.raw(BOXES, 1)), 2);
        c.stopped("mean of no BOXES", c.x.mean(c.x.raw(BOXES, 0)), 2);
        c.stopped("mean of TABLES", c.x.mean(c.made(TABLES, 1, 1, 1, 1)), 2);
        c.stopped("mean of no TABLES", c.x.mean(c.made(TABLES, 1, 0, 1, 1)), 2);
    }

    private static void aboutDimensions() {
        Checks c = new Checks("24: a DIMENSION that it has not: CODE 9");
        int[] bounds = {1, 2, 3, 4, 5, 6};
        for (int dimensions = 1; dimensions <= 3; dimensions++) {
            int a = c.made(INTS, Arrays.copyOf(bounds, 2 * dimensions));
            c.ok("about DIMENSIONS", c.x.about(a, 1), dimensions);
            for (int what = 3; what <= 8; what++) {
                boolean has = what - 3 < 2 * dimensions;
                c.told("about " + what + " of " + dimensions, c.x.about(a, what), has ? bounds[what - 3] : 0, has ? 0 : 9);
            }
        }
        int t = c.made(TABLES, 1, 2, 3, 4);
        c.ok("about HIGH 1 of TABLES", c.x.about(t, 6), 4);
        c.stopped("about LOW 2 of TABLES", c.x.about(t, 7), 9);
    }

    private static void aboutItems() {
        Checks c = new Checks("24: ITEMS of its ROW (2; of TABLES how many there are in all ROWS)");
        c.ok("of none", c.x.about(c.x.raw(BOXES, 0), 2), 0);
        c.ok("of 500, nothing in them", c.x.about(c.x.raw(BOXES, 500), 2), 500);
        int t = c.made(TABLES, 1, 3, 1, 2);
        c.ok("of TABLES", c.x.about(t, 2), 6);
        c.x.ragged(t, 1, 0);
        c.ok("of TABLES, a ROW of none", c.x.about(t, 2), 4);
        c.x.without(t, 1);
        c.ok("of TABLES, a ROW is nothing", c.x.about(t, 2), 4);
        c.x.ragged(t, 2, 100);
        c.ok("of TABLES, a ROW of 100", c.x.about(t, 2), 102);
        c.x.tie(t, 1, t, 2);
        c.ok("of TABLES, a ROW twice", c.x.about(t, 2), 202);
        c.ok("of TABLES, no ROW", c.x.about(c.made(TABLES, 1, 0, MIN, MAX), 2), 0);
    }

    private static void aboutKinds() {
        Checks c = new Checks("24: its KIND (what = 0)");
        for (int kind = BYTES; kind <= TABLES; kind++) {
            c.ok("about KIND", c.x.about(c.made(kind, 1, 1, 1, 1), 0), kind);
        }
        c.outside("about -1", c.x.about(0, -1), 0);
        c.outside("about 9", c.x.about(0, 9), 0);
    }

    private static void sameRows() {
        Checks c = new Checks("25: Whether two ARRAYS have the same ROW");
        for (int n : new int[] {0, 1, 500}) {
            int a = c.x.raw(INTS, n);
            int b = c.x.raw(INTS, n);
            c.shape(5, 4 + n);
            int seen = c.x.see(a);
            c.ok("same, itself", c.x.same(a, a), 1);
            c.ok("same, seen", c.x.same(a, seen), 1);
            c.ok("same, the other way", c.x.same(seen, a), 1);
            c.ok("same, alike alone", c.x.same(a, b), 0);
            c.ok("same, alike alone, seen", c.x.same(b, seen), 0);
        }
    }

    private static void sameTables() {
        Checks c = new Checks("25: (TABLES: all ROWS are the same ones, or nothing)");
        int a = c.made(TABLES, 1, 2, 1, 1);
        int b = c.made(TABLES, 5, 6, 9, 9);
        c.ok("same, itself", c.x.same(a, a), 1);
        c.ok("same, alike alone", c.x.same(a, b), 0);
        c.x.tie(b, 5, a, 1);
        c.ok("same, the first alone", c.x.same(a, b), 0);
        c.x.tie(b, 6, a, 2);
        c.ok("same, both", c.x.same(a, b), 1);
        c.x.without(a, 2);
        c.ok("same, nothing and a ROW", c.x.same(a, b), 0);
        c.ok("same, a ROW and nothing", c.x.same(b, a), 0);
        c.x.without(b, 6);
        c.ok("same, nothing and nothing", c.x.same(a, b), 1);
        c.x.ragged(a, 2, 0);
        c.ok("same, no items and nothing", c.x.same(a, b), 0);
        c.x.without(a, 1);
        c.x.without(a, 2);
        c.x.without(b, 5);
        c.ok("same, nothing at all", c.x.same(a, b), 1);
        int longer = c.made(TABLES, 1, 3, 1, 1);
        for (int i = 1; i <= 3; i++) {
            c.x.without(longer, i);
        }
        c.ok("same, more ROWS that are nothing", c.x.same(a, longer), 0);
        c.ok("same, fewer ROWS that are nothing", c.x.same(longer, a), 0);
        c.ok("same, no ROWS", c.x.same(c.made(TABLES, 1, 0, 1, 1), c.made(TABLES, 9, 8, 1, 2)), 1);
        c.ok("same, deep", c.x.same(c.x.deep(c.made(INTS, 1, 1, 1, 1)), c.made(TABLES, 1, 1, 1, 1)), 0);
    }

    private static void sameOfTablesAndOthers() {
        Checks c = new Checks("25: Whether two ARRAYS have the same ROW, TABLES and others");
        c.x.raw(INTS, 1);
        c.x.clear();
        for (int kind = BYTES; kind <= TABLES; kind++) {
            c.made(kind, 1, 1, 1, 1);
        }
        int none = c.made(TABLES, 1, 0, 1, 1);
        for (int kind = BYTES; kind <= BOXES; kind++) {
            c.ok("same, TABLES and " + kind, c.x.same(TABLES, kind), 0);
            c.ok("same, " + kind + " and TABLES", c.x.same(kind, TABLES), 0);
            c.ok("same, no ROWS and " + kind, c.x.same(none, kind), 0);
        }
        c.x.clear();
        c.made(TABLES, 1, 0, 1, 1);
        int first = c.x.raw(INTS, 1);
        c.ok("same, TABLES where another KIND was", c.x.same(0, first), 0);
    }

    private static void compareItems() {
        Checks c = new Checks("26: by their ROWS' first ITEM that is another one");
        long[] least = {-128, MIN, Long.MIN_VALUE};
        long[] most = {127, MAX, Long.MAX_VALUE};
        for (int kind = BYTES; kind <= LONGS; kind++) {
            int a = c.x.raw(kind, 2);
            int b = c.x.raw(kind, 2);
            c.x.put(a, 1, 0, 0, least[kind]);
            c.x.put(b, 1, 0, 0, most[kind]);
            c.ok("compare, the last, least and most", c.x.compare(a, b), -1);
            c.ok("compare, the other way", c.x.compare(b, a), 1);
            c.x.put(a, 0, 0, 0, 1);
            c.ok("compare, the first ahead of the last", c.x.compare(a, b), 1);
            c.x.put(b, 0, 0, 0, 2);
            c.ok("compare, less by 1", c.x.compare(a, b), -1);
        }
    }

    private static void compareLengths() {
        Checks c = new Checks("26: else by how many ITEMS they have");
        for (int kind = BYTES; kind <= LONGS; kind++) {
            int none = c.x.raw(kind, 0);
            int one = c.x.raw(kind, 1);
            int many = c.made(kind, 1, 250, 1, 2);
            c.ok("compare, none and none", c.x.compare(none, c.made(kind, 1, 0, MIN, MAX)), 0);
            c.ok("compare, none and one", c.x.compare(none, one), -1);
            c.ok("compare, one and none", c.x.compare(one, none), 1);
            c.ok("compare, one and 500", c.x.compare(one, many), -1);
            c.ok("compare, 500 and one", c.x.compare(many, one), 1);
            c.x.put(one, 0, 0, 0, -1);
            c.ok("compare, an ITEM ahead of how many", c.x.compare(many, one), 1);
            c.x.put(one, 0, 0, 0, 1);
            c.ok("compare, an ITEM ahead of how many", c.x.compare(many, one), -1);
            c.ok("compare, itself", c.x.compare(many, many), 0);
            int longer = c.x.raw(kind, 2);
            c.x.put(longer, 0, 0, 0, 1);
            c.x.put(longer, 1, 0, 0, -9);
            c.ok("compare, whatever the ITEMS behind", c.x.compare(one, longer), -1);
            c.ok("compare, whatever the ITEMS behind", c.x.compare(longer, one), 1);
        }
    }

    private static void compareKinds() {
        Checks c = new Checks("26: Two ARRAYS of one KIND, BYTES, INTS or LONGS");
        for (int kind = BYTES; kind <= TABLES; kind++) {
            c.made(kind, 1, 1, 1, 1);
        }
        for (int a = BYTES; a <= TABLES; a++) {
            for (int b = BYTES; b <= TABLES; b++) {
                c.told("compare of " + a + " and " + b, c.x.compare(a, b), 0, a == b && a <= LONGS ? 0 : 2);
            }
        }
    }

    private static void clearOfAll() {
        Checks c = new Checks("27: All is as at first, CODE too");
        c.fillUp();
        for (int n = 0; n < 30; n++) {
            c.x.pair(n, 0, 0, 1);
        }
        c.shape(1, 2, 3, 4, 5, 6);
        c.beyond("get", c.x.get(0, 1, 0, 0), 0);
        c.due("clear(), 24", c.x.clear(), 24);
        c.due("code()", c.x.code(), 0);
        c.due("which()", c.x.which(), ArrayMaker.NONE);
        c.due("clear(), again", c.x.clear(), 0);
        c.stopped("make, no dimension", c.x.make(BYTES), 9);
        c.ok("range, the first", c.x.range(0, 0), 1);
        c.ok("pair, the first", c.x.pair(0, 0, 0, 7), 1);
        c.ok("make, the first", c.x.make(BYTES), 0);
        c.ok("gather", c.x.gather(0, 1), 1);
        c.ok("get", c.x.get(0, 0, 0, 0), 7);
        c.stopped("about the second", c.x.about(1, 0), 7);
        c.due("clear(), 1", c.x.clear(), 1);
    }

    /** Each time there is room for 24 ARRAYS of 500 ITEMS. */
    private static void clearOfRoom() {
        Checks c = new Checks("27: All is as at first: room");
        for (int n = 0; n < 19; n++) {
            for (int a = 0; a < 24; a++) {
                c.due("raw", c.x.raw(LONGS, 500), a);
            }
            c.due("put, the last", c.x.put(23, 499, 0, 0, n), 1);
            c.due("clear()", c.x.clear(), 24);
        }
    }

    private static void clearOfRoomForRows() {
        Checks c = new Checks("27: All is as at first: room for ROWS");
        for (int n = 0; n < 6; n++) {
            for (int a = 0; a < 24; a++) {
                c.x.range(1, 500);
                c.x.range(1, n % 2);
                c.due("make", c.x.make(TABLES), a);
            }
            c.due("ragged, the last", c.x.ragged(23, 500, 100), 1);
            c.due("about ITEMS", c.x.about(23, 2), n % 2 == 0 ? 100 : 599);
            c.due("clear()", c.x.clear(), 24);
        }
    }

    /** Dimensions that an ARRAY of that number had ahead of clear() are not looked at behind it. */
    private static void clearOfDimensions() {
        Checks c = new Checks("27: All is as at first: DIMENSIONS");
        for (int n = 0; n < 3; n++) {
            c.made(INTS, 1, 2, 1, 2, 1, 2);
        }
        c.shape(1, 2, 1, 2, 1, 2);
        c.x.clear();
        int a = c.made(INTS, 1, 2, 1, 3);
        c.stopped("about LOW 2", c.x.about(a, 7), 9);
        for (int n = 0; n < 6; n++) {
            c.x.put(a, 1 + n / 3, 1 + n % 3, 0, n + 1);
        }
        int turned = c.x.turn(a);
        c.ok("about ITEMS, turned", c.x.about(turned, 2), 6);
        c.ok("get, turned", c.x.get(turned, 3, 1, 9), 3);
        c.shape(2, 2, 2, 3);
        int part = c.x.cut(a);
        c.ok("about ITEMS, cut", c.x.about(part, 2), 2);
        c.ok("get, cut", c.x.get(part, 2, 3, 9), 6);
    }

    /** What an array of another kind held ahead of clear() is not seen behind it. */
    private static void clearOfItems() {
        for (int kind = BYTES; kind <= TABLES; kind++) {
            Checks c = new Checks("27: All is as at first: ITEMS");
            for (int next = BYTES; next <= TABLES; next++) {
                int a = c.made(kind, 1, 2, 1, 2);
                c.x.put(a, 1, 1, 0, 5);
                c.x.put(a, 2, 2, 0, 5);
                c.due("clear()", c.x.clear(), 1);
                int b = c.made(next, 1, 2, 1, 2);
                c.told("get", c.x.get(b, 1, 1, 0), 0, next == BOXES ? 1 : 0);
                c.told("get", c.x.get(b, 2, 2, 0), 0, next == BOXES ? 1 : 0);
                c.ok("sum", c.x.sum(b), 0);
                c.due("clear()", c.x.clear(), 1);
            }
        }
    }

    private static void clearOfRows() {
        Checks c = new Checks("27: All is as at first: ROWS");
        int t = c.made(TABLES, 1, 3, 1, 2);
        c.x.without(t, 1);
        c.x.tie(t, 2, t, 3);
        c.x.ragged(t, 3, 9);
        c.x.clear();
        int again = c.made(TABLES, 1, 3, 1, 2);
        c.ok("about ITEMS", c.x.about(again, 2), 6);
        c.ok("put", c.x.put(again, 2, 1, 0, 4), 1);
        c.ok("get, not tied", c.x.get(again, 3, 1, 0), 0);
        c.ok("get, a ROW is there", c.x.get(again, 1, 1, 0), 0);
        int fewer = c.made(TABLES, 1, 1, 1, 1);
        c.beyond("get, a ROW of 3 that was there", c.x.get(fewer, 2, 1, 0), 0);
    }

    public static void main(String[] args) {
        raggedLengths();
        raggedIndexes();
        raggedIsNew();
        raggedBeyond500();
        without();
        tieStops();
        tieFromNowOn();
        getOfTables();
        putOfTables();
        empty();
        sums();
        sumsOfTables();
        meanTowardsZero();
        meanStops();
        aboutDimensions();
        aboutItems();
        aboutKinds();
        sameRows();
        sameTables();
        sameOfTablesAndOthers();
        compareItems();
        compareLengths();
        compareKinds();
        clearOfAll();
        clearOfRoom();
        clearOfRoomForRows();
        clearOfDimensions();
        clearOfItems();
        clearOfRows();
        Checks.end();
    }
}
