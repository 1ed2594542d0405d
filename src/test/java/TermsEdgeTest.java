/**
 * The edges that 'What it is', 'Terms' and 'The public face' name: a test for each sentence, whose
 * words stand in the name of its checks.
 */
public final class TermsEdgeTest {
    private static final int MIN = Integer.MIN_VALUE, MAX = Integer.MAX_VALUE;
    private static final int BYTES = 0, INTS = 1, LONGS = 2, BOXES = 3, TABLES = 4;

    private static void noDimension() {
        Checks c = new Checks("THE SHAPE has 0 to 3 DIMENSIONS: 0");
        c.ok("shapeless()", c.x.shapeless(), 0);
        for (int kind = BYTES; kind <= TABLES; kind++) {
            c.stopped("make(" + kind + ")", c.x.make(kind), 9);
        }
    }

    private static void threeDimensions() {
        Checks c = new Checks("THE SHAPE has 0 to 3 DIMENSIONS: 3");
        for (int n = 1; n <= 3; n++) {
            c.ok("range", c.x.range(n, n), n);
        }
        c.stopped("range, a fourth one", c.x.range(4, 4), 8);
        int a = c.x.make(INTS);
        c.ok("about DIMENSIONS", c.x.about(a, 1), 3);
        for (int what = 3; what <= 8; what++) {
            c.ok("about(" + what + ")", c.x.about(a, what), (what - 1) / 2);
        }
    }

    private static void lowAndHighAreInts() {
        Checks c = new Checks("each a LOW and a HIGH (ints)");
        int a = c.made(BOXES, MIN, MIN, MAX, MAX, MAX, MIN);
        int[] bounds = {MIN, MIN, MAX, MAX, MAX, MIN};
        for (int n = 0; n < 6; n++) {
            c.ok("about(" + (3 + n) + ")", c.x.about(a, 3 + n), bounds[n]);
        }
    }

    /** A length that would be small, 0 or below 0 in 32 bits is above 500. */
    private static void lengthWithoutEnd() {
        Checks c = new Checks("HIGH less LOW and 1, as a number without end");
        int[][] wide = {{MIN, MAX}, {MIN, MAX - 1}, {MIN + 1, MAX}, {0, MAX}, {-1, MAX}, {MIN, -1},
                {MIN, 0}, {MIN, 499}, {-250, MAX}, {1, MAX}};
        for (int[] bounds : wide) {
            c.shape(bounds);
            c.stopped("make of " + bounds[0] + " to " + bounds[1], c.x.make(BYTES), 5);
        }
    }

    /** 500 items at both ends of the ints, and not one more. */
    private static void lengthAtTheEndsOfInts() {
        Checks c = new Checks("HIGH less LOW and 1, at the ends of the ints");
        int top = c.made(INTS, MAX - 499, MAX);
        int bottom = c.made(INTS, MIN, MIN + 499);
        c.ok("about ITEMS, top", c.x.about(top, 2), 500);
        c.ok("about ITEMS, bottom", c.x.about(bottom, 2), 500);
        c.ok("put, top", c.x.put(top, MAX, 0, 0, 1), 1);
        c.ok("put, bottom", c.x.put(bottom, MIN, 0, 0, 1), 1);
        c.shape(MAX - 500, MAX);
        c.stopped("make, top", c.x.make(INTS), 5);
        c.shape(MIN, MIN + 500);
        c.stopped("make, bottom", c.x.make(INTS), 5);
    }

    /** HIGH less LOW would wrap to 0, 1 or more in 32 bits. */
    private static void lengthBelowZero() {
        Checks c = new Checks("0, if that is below 0");
        int[][] below = {{5, 4}, {5, 3}, {5, -500}, {MAX, MIN}, {MAX, MIN + 1}, {MAX, MIN + 498},
                {0, MIN}, {1, MIN}, {MAX, 0}, {MAX, -1}, {MIN + 1, MIN}, {MAX, MAX - 1}};
        for (int[] bounds : below) {
            String told = " of " + bounds[0] + " to " + bounds[1];
            int a = c.made(LONGS, bounds);
            c.ok("about ITEMS" + told, c.x.about(a, 2), 0);
            c.beyond("get at LOW" + told, c.x.get(a, bounds[0], 0, 0), 0);
            c.beyond("get at HIGH" + told, c.x.get(a, bounds[1], 0, 0), 0);
        }
    }

    /** Lengths below 0 multiplied without being 0 would be above 0 again, or above 500. */
    private static void twoLengthsBelowZero() {
        Checks c = new Checks("0, if that is below 0: two of them");
        c.ok("about ITEMS, -3 by -4", c.x.about(c.made(INTS, 5, 1, 5, 0), 2), 0);
        c.ok("about ITEMS, -3 by -4 by 5", c.x.about(c.made(INTS, 5, 1, 5, 0, 1, 5), 2), 0);
        c.ok("about ITEMS, far below", c.x.about(c.made(INTS, MAX, MIN, MAX, MIN), 2), 0);
        c.ok("about ITEMS, by a great one", c.x.about(c.made(INTS, MAX, MIN, MIN, MAX), 2), 0);
        c.ok("about ITEMS, a great one by it", c.x.about(c.made(INTS, MIN, MAX, MAX, MIN), 2), 0);
        c.ok("about ITEMS, between", c.x.about(c.made(INTS, MIN, MAX, 1, 0, MIN, MAX), 2), 0);
    }

    /** The dearest calls, up to the 512th one, are answered as promised. */
    private static void calls512() {
        Checks c = new Checks("An object is used for at most 512 calls");
        for (int n = 0; n < 24; n++) {
            c.x.range(1, 500);
            c.x.range(1, 1);
            c.due("make", c.x.make(TABLES), n);
        }
        int ragged = 512 - 24 * 3 - 2;
        for (int n = 0; n < ragged; n++) {
            c.due("ragged", c.x.ragged(23, 1 + n, 100), 1);
        }
        c.due("about, the 511th call", c.x.about(23, 2), ragged * 100 + 500 - ragged);
        c.due("put, the 512th call", c.x.put(23, ragged, 100, 0, 7), 1);
    }

    private static void arrays24() {
        Checks c = new Checks("An ARRAY (24 at most are made)");
        for (int n = 0; n < 24; n++) {
            c.ok("raw", c.x.raw(n % 4, n), n);
        }
        c.stopped("raw, the 25th", c.x.raw(BYTES, 0), 8);
        c.ok("about the last", c.x.about(23, 2), 23);
        c.stopped("about the one behind", c.x.about(24, 2), 7);
    }

    /** One of each way to make an array stops at the 25th. */
    private static void noRoomForAny() {
        Checks c = new Checks("8 no room, for an ARRAY");
        int ints = c.made(INTS, 1, 2, 1, 2);
        int table = c.made(TABLES, 1, 2, 1, 2);
        for (int n = 2; n < 23; n++) {
            c.x.raw(BYTES, 1);
        }
        c.ok("turn, the 24th", c.x.turn(ints), 23);
        c.stopped("raw", c.x.raw(BYTES, 1), 8);
        c.stopped("turn", c.x.turn(ints), 8);
        c.stopped("deep", c.x.deep(ints), 8);
        c.stopped("flat", c.x.flat(table), 8);
        c.shape(1, 2, 1, 2);
        c.stopped("make", c.x.make(INTS), 8);
        c.stopped("make of TABLES", c.x.make(TABLES), 8);
        c.stopped("see", c.x.see(ints), 8);
        c.stopped("cut", c.x.cut(ints), 8);
        c.due("clear()", c.x.clear(), 24);
    }

    private static void noSuchArray() {
        Checks c = new Checks("7 no such ARRAY");
        c.x.raw(BOXES, 1);
        c.x.raw(BOXES, 1);
        c.shape(0, 0);
        for (int a : new int[] {2, 23, 24, -1, MIN, MAX}) {
            c.stopped("see " + a, c.x.see(a), 7);
            c.stopped("turn " + a, c.x.turn(a), 7);
            c.stopped("cut " + a, c.x.cut(a), 7);
            c.stopped("deep " + a, c.x.deep(a), 7);
            c.stopped("flat " + a, c.x.flat(a), 7);
            c.stopped("ragged " + a, c.x.ragged(a, 0, 1), 7);
            c.stopped("without " + a, c.x.without(a, 0), 7);
            c.stopped("tie " + a + " with 0", c.x.tie(a, 0, 0, 0), 7);
            c.stopped("tie 0 with " + a, c.x.tie(0, 0, a, 0), 7);
            c.stopped("get " + a, c.x.get(a, 0, 0, 0), 7);
            c.stopped("put " + a, c.x.put(a, 0, 0, 0, 1), 7);
            c.stopped("empty " + a, c.x.empty(a, 0, 0, 0), 7);
            c.stopped("gather " + a, c.x.gather(a, 0), 7);
            c.stopped("join " + a + " with 0", c.x.join(a, 0, 0), 7);
            c.stopped("join 0 with " + a, c.x.join(0, a, 0), 7);
            c.stopped("sum " + a, c.x.sum(a), 7);
            c.stopped("mean " + a, c.x.mean(a), 7);
            c.stopped("about " + a, c.x.about(a, 0), 7);
            c.stopped("same " + a + " and 0", c.x.same(a, 0), 7);
            c.stopped("same 0 and " + a, c.x.same(0, a), 7);
            c.stopped("compare " + a + " and 0", c.x.compare(a, 0), 7);
            c.stopped("compare 0 and " + a, c.x.compare(0, a), 7);
        }
    }

    /** Puts a number as the only item of an array of a kind, and reads it. */
    private static void kept(String sentence, int kind, long v, long want) {
        Checks c = new Checks(sentence);
        int a = kind == TABLES ? c.made(TABLES, 0, 0, 0, 0) : c.x.raw(kind, 1);
        c.ok("put of " + v + " into kind " + kind, c.x.put(a, 0, 0, 0, v), 1);
        c.ok("get of " + v + " from kind " + kind, c.x.get(a, 0, 0, 0), want);
    }

    private static void kindsHold() {
        long[] numbers = {-128, 127, 0, -1};
        for (long v : numbers) {
            kept("0 BYTES (-128 to 127)", BYTES, v, v);
        }
        for (long v : new long[] {MIN, MAX, 0, -1}) {
            kept("1 INTS (32 bits)", INTS, v, v);
            kept("a ROW of INTS", TABLES, v, v);
        }
        for (long v : new long[] {Long.MIN_VALUE, Long.MAX_VALUE, 0, -1}) {
            kept("2 LONGS (64 bits)", LONGS, v, v);
            kept("3 BOXES (each nothing, or a number of 64 bits)", BOXES, v, v);
        }
    }

    private static void lowestBits() {
        String bytes = "A number v goes into BYTES by its lowest 8 bits";
        kept(bytes, BYTES, 128, -128);
        kept(bytes, BYTES, -129, 127);
        kept(bytes, BYTES, 255, -1);
        kept(bytes, BYTES, 256, 0);
        kept(bytes, BYTES, Long.MIN_VALUE, 0);
        kept(bytes, BYTES, Long.MAX_VALUE, -1);
        String ints = "into INTS by its lowest 32 (with their sign)";
        for (int kind : new int[] {INTS, TABLES}) {
            kept(ints, kind, MAX + 1L, MIN);
            kept(ints, kind, MIN - 1L, MAX);
            kept(ints, kind, 0xffffffffL, -1);
            kept(ints, kind, 0x100000000L, 0);
            kept(ints, kind, Long.MIN_VALUE, 0);
            kept(ints, kind, Long.MAX_VALUE, -1);
        }
    }

    private static void lengthsMultiplied() {
        Checks c = new Checks("a ROW of ITEMS, as many as its LENGTHS multiplied");
        c.ok("about ITEMS, 1", c.x.about(c.made(BYTES, 7, 7, -7, -7, 0, 0), 2), 1);
        c.ok("about ITEMS, 2 by 3", c.x.about(c.made(BYTES, 0, 1, -1, 1), 2), 6);
        c.ok("about ITEMS, 2 by 3 by 4", c.x.about(c.made(BYTES, 0, 1, -1, 1, 5, 8), 2), 24);
        c.ok("about ITEMS, 2 by 0 by 4", c.x.about(c.made(BYTES, 0, 1, 1, 0, 5, 8), 2), 0);
    }

    private static void notLookedAt() {
        Checks c = new Checks("as many of them as DIMENSIONS; others are not looked at");
        int one = c.made(BOXES, 4, 5);
        int two = c.made(BOXES, 4, 5, 6, 7);
        int table = c.made(TABLES, 4, 5, 6, 7);
        for (int other : new int[] {MIN, -1, 0, 8, MAX}) {
            c.ok("put, one", c.x.put(one, 5, other, other, 3), 1);
            c.ok("get, one", c.x.get(one, 5, -other, 9), 3);
            c.ok("empty, one", c.x.empty(one, 5, other, other), 1);
            c.ok("put, two", c.x.put(two, 5, 6, other, 3), 1);
            c.ok("get, two", c.x.get(two, 5, 6, -other), 3);
            c.ok("empty, two", c.x.empty(two, 5, 6, other), 1);
            c.ok("put, a table", c.x.put(table, 5, 6, other, 3), 1);
            c.ok("get, a table", c.x.get(table, 5, 6, -other), 3);
            c.x.pair(5, other, other, 4);
            c.ok("gather, one", c.x.gather(one, 0), 1);
            c.x.pair(5, 6, other, 4);
            c.ok("gather, two", c.x.gather(two, 0), 1);
        }
    }

    /** The items at LOW and HIGH are there, those beside them are not, in a dimension of an array. */
    private static void edgesOf(Checks c, int a, int dimension, int low, int high) {
        int[] index = {1, 1, 1};
        for (int there : new int[] {low, high}) {
            index[dimension] = there;
            c.ok("put, " + there + " in " + dimension, c.x.put(a, index[0], index[1], index[2], 6), 1);
            c.ok("get, " + there + " in " + dimension, c.x.get(a, index[0], index[1], index[2]), 6);
            c.ok("empty, " + there + " in " + dimension, c.x.empty(a, index[0], index[1], index[2]), 1);
        }
        for (int beside : new int[] {low - 1, high + 1, MIN, MAX}) {
            index[dimension] = beside;
            c.beyond("put, " + beside + " in " + dimension, c.x.put(a, index[0], index[1], index[2], 6), dimension);
            c.beyond("get, " + beside + " in " + dimension, c.x.get(a, index[0], index[1], index[2]), dimension);
            c.beyond("empty, " + beside + " in " + dimension, c.x.empty(a, index[0], index[1], index[2]), dimension);
            c.x.pair(index[0], index[1], index[2], 6);
            c.told("gather, " + beside + " in " + dimension, c.x.gather(a, 0), 0, 3);
            c.due("gather, which()", c.x.which(), dimension);
            c.ok("gather, to have THE LIST empty", c.x.gather(listEnd(c, index), 0), 1);
        }
    }

    /** An array that has one item, of an index. */
    private static int listEnd(Checks c, int[] index) {
        return c.made(BYTES, index[0], index[0], index[1], index[1], index[2], index[2]);
    }

    private static void lowToHigh() {
        for (int dimension = 0; dimension < 3; dimension++) {
            Checks c = new Checks("LOW <= i <= HIGH in each");
            int[] bounds = {1, 1, 1, 1, 1, 1};
            bounds[2 * dimension] = -3;
            bounds[2 * dimension + 1] = 2;
            edgesOf(c, c.made(BOXES, bounds), dimension, -3, 2);
        }
    }

    /** An index less LOW would wrap in 32 bits to a place that the row has. */
    private static void indexesDoNotWrap() {
        Checks c = new Checks("LOW <= i <= HIGH in each, at the ends of the ints");
        int top = c.made(LONGS, MAX - 1, MAX);
        c.beyond("get, MIN of the top", c.x.get(top, MIN, 0, 0), 0);
        c.beyond("put, MIN + 1 of the top", c.x.put(top, MIN + 1, 0, 0, 1), 0);
        c.ok("get, MAX of the top", c.x.get(top, MAX, 0, 0), 0);
        int bottom = c.made(LONGS, MIN, MIN + 1);
        c.beyond("get, MAX of the bottom", c.x.get(bottom, MAX, 0, 0), 0);
        c.beyond("put, 0 of the bottom", c.x.put(bottom, 0, 0, 0, 1), 0);
        c.ok("get, MIN of the bottom", c.x.get(bottom, MIN, 0, 0), 0);
    }

    private static void orderInTheRow() {
        Checks c = new Checks("lies in the ROW by i, then j, then k, rising, the last one fastest");
        int a = c.made(INTS, -1, 0, 5, 7, 2, 5);
        c.shape(0, 23);
        int row = c.x.see(a);
        int place = 0;
        for (int i = -1; i <= 0; i++) {
            for (int j = 5; j <= 7; j++) {
                for (int k = 2; k <= 5; k++) {
                    c.ok("put", c.x.put(a, i, j, k, 100 * i + 10 * j + k), 1);
                    c.ok("get " + place, c.x.get(row, place, 0, 0), 100 * i + 10 * j + k);
                    place++;
                }
            }
        }
    }

    private static void atFirst() {
        Checks c = new Checks("ITEMS are 0, or nothing, at first");
        for (int kind = BYTES; kind <= LONGS; kind++) {
            int a = c.x.raw(kind, 500);
            c.ok("get, the first", c.x.get(a, 0, 0, 0), 0);
            c.ok("get, the last", c.x.get(a, 499, 0, 0), 0);
        }
        int boxes = c.x.raw(BOXES, 500);
        c.stopped("get, the first box", c.x.get(boxes, 0, 0, 0), 1);
        c.stopped("get, the last box", c.x.get(boxes, 499, 0, 0), 1);
        int table = c.made(TABLES, 1, 5, 1, 100);
        c.ok("get, a table's first", c.x.get(table, 1, 1, 0), 0);
        c.ok("get, a table's last", c.x.get(table, 5, 100, 0), 0);
    }

    private static void itemsStay() {
        Checks c = new Checks("each nothing, or a number, when much else has been made");
        int boxes = c.x.raw(BOXES, 3);
        c.x.put(boxes, 0, 0, 0, 0);
        c.x.put(boxes, 2, 0, 0, MAX);
        int table = c.made(TABLES, 1, 2, 1, 1);
        c.x.put(table, 2, 1, 0, 5);
        for (int n = 0; n < 20; n++) {
            c.x.raw(n % 4, 500);
        }
        c.ok("get of 0", c.x.get(boxes, 0, 0, 0), 0);
        c.stopped("get of nothing", c.x.get(boxes, 1, 0, 0), 1);
        c.ok("get of a number", c.x.get(boxes, 2, 0, 0), MAX);
        c.ok("get of a table's", c.x.get(table, 2, 1, 0), 5);
    }

    private static void whatIsPutIsInAll() {
        Checks c = new Checks("what is put into one is in all");
        int a = c.made(BOXES, 1, 2, 1, 2);
        c.shape(0, 3);
        int b = c.x.see(a);
        c.shape(5, 5, 5, 5, 6, 9);
        int d = c.x.see(b);
        c.x.put(a, 1, 2, 0, 4);
        c.ok("get of what was put", c.x.get(d, 5, 5, 7), 4);
        c.x.pair(1, 0, 0, 5);
        c.x.gather(b, 1);
        c.ok("get of what was gathered", c.x.get(a, 1, 2, 0), 9);
        int numbers = c.x.raw(BOXES, 4);
        for (int n = 0; n < 4; n++) {
            c.x.put(numbers, n, 0, 0, n);
        }
        c.x.join(d, numbers, 1);
        c.ok("get of what was joined", c.x.get(a, 1, 2, 0), 10);
        c.ok("get of what was joined", c.x.get(b, 3, 0, 0), 3);
        c.x.empty(d, 5, 5, 7);
        c.stopped("get of what is empty", c.x.get(a, 1, 2, 0), 1);
        c.stopped("get of what is empty", c.x.get(b, 1, 0, 0), 1);
    }

    private static void rowsOfTheirOwn() {
        Checks c = new Checks("for each i a ROW of INTS of its own");
        int t = c.made(TABLES, -1, 1, 0, 1);
        c.x.put(t, 0, 1, 0, 8);
        c.ok("get, the row ahead", c.x.get(t, -1, 1, 0), 0);
        c.ok("get, the row", c.x.get(t, 0, 1, 0), 8);
        c.ok("get, the row behind", c.x.get(t, 1, 1, 0), 0);
    }

    private static void orNothing() {
        Checks c = new Checks("a ROW of INTS of its own, or nothing");
        int t = c.made(TABLES, 1, 2, 0, 1);
        c.x.without(t, 1);
        c.stopped("get", c.x.get(t, 1, 0, 0), 1);
        c.stopped("put", c.x.put(t, 1, 0, 0, 1), 1);
        c.ok("get, the other row", c.x.get(t, 2, 0, 0), 0);
    }

    private static void whateverHighIs() {
        Checks c = new Checks("j less LOW is below that ROW's length (whatever HIGH is)");
        int t = c.made(TABLES, 1, 3, -2, 1);
        c.x.ragged(t, 1, 2);
        c.x.ragged(t, 2, 7);
        int[] lengths = {2, 7, 4};
        for (int i = 1; i <= 3; i++) {
            int last = -2 + lengths[i - 1] - 1;
            c.beyond("get below LOW, row " + i, c.x.get(t, i, -3, 0), 1);
            c.ok("put at LOW, row " + i, c.x.put(t, i, -2, 0, 5), 1);
            c.ok("put at the last, row " + i, c.x.put(t, i, last, 0, 6), 1);
            c.ok("get at the last, row " + i, c.x.get(t, i, last, 0), 6);
            c.beyond("get behind the last, row " + i, c.x.get(t, i, last + 1, 0), 1);
            c.beyond("put behind the last, row " + i, c.x.put(t, i, last + 1, 0, 1), 1);
        }
        int below = c.made(TABLES, 1, 1, 5, -5);
        c.beyond("get at LOW of no items", c.x.get(below, 1, 5, 0), 1);
        c.x.ragged(below, 1, 1);
        c.ok("get at LOW above HIGH", c.x.get(below, 1, 5, 0), 0);
        c.beyond("get at HIGH below LOW", c.x.get(below, 1, -5, 0), 1);
    }

    /** j less LOW would wrap in 32 bits to a place that the row has. */
    private static void placesOfRowsDoNotWrap() {
        Checks c = new Checks("LOW <= j, and j less LOW is below that ROW's length, at the ends");
        int top = c.made(TABLES, 1, 1, MAX, MAX);
        c.x.ragged(top, 1, 100);
        c.ok("get, MAX", c.x.get(top, 1, MAX, 0), 0);
        c.beyond("get, MIN", c.x.get(top, 1, MIN, 0), 1);
        c.beyond("put, MIN + 98", c.x.put(top, 1, MIN + 98, 0, 1), 1);
        int bottom = c.made(TABLES, 1, 1, MIN, MIN);
        c.x.ragged(bottom, 1, 100);
        c.ok("get, MIN + 99", c.x.get(bottom, 1, MIN + 99, 0), 0);
        c.beyond("get, MIN + 100", c.x.get(bottom, 1, MIN + 100, 0), 1);
        c.beyond("get, MAX", c.x.get(bottom, 1, MAX, 0), 1);
        c.beyond("get, 0", c.x.get(bottom, 1, 0, 0), 1);
    }

    private static void moreThan500() {
        Checks c = new Checks("5 more than 500 ITEMS");
        int[][] most = {{1, 500}, {1, 250, 1, 2}, {1, 5, 1, 10, 1, 10}, {1, 1, 1, 500, 1, 1}};
        int[][] over = {{1, 501}, {1, 167, 1, 3}, {1, 3, 1, 167, 1, 1}, {1, 8, 1, 8, 1, 8}, {1, 1, 1, 1, 0, 500}};
        for (int kind = BYTES; kind <= BOXES; kind++) {
            for (int[] bounds : most) {
                c.ok("about ITEMS", c.x.about(c.made(kind, bounds), 2), 500);
            }
            for (int[] bounds : over) {
                c.shape(bounds);
                c.stopped("make of " + bounds.length / 2 + " dimensions", c.x.make(kind), 5);
            }
        }
    }

    /** Products that would be 0, below 0 or small in 32 or in 64 bits. */
    private static void productsWithoutEnd() {
        Checks c = new Checks("LENGTHS multiplied, as numbers without end");
        int[][] wide = {{0, 65535, 0, 65535}, {0, 65535, 0, 32767}, {MIN, MAX, MIN, MAX},
                {MIN, MAX, MIN, -1, 0, 1}, {0, 1, MIN, MAX, MIN, -1}, {MIN, -1, MIN, -1, 0, 3},
                {0, 3, MIN, -1, MIN, -1}, {MIN, MAX, MIN, MAX, MIN, MAX}, {MIN, MAX, 0, 0, MIN, MAX},
                {MIN, MAX - 1, MIN, MAX - 1}, {0, 640, 0, 6700416}};
        for (int[] bounds : wide) {
            c.shape(bounds);
            c.stopped("make of " + bounds[0] + " to " + bounds[1] + " ..", c.x.make(LONGS), 5);
            c.ok("THE SHAPE stays", c.x.shapeless(), bounds.length / 2);
        }
    }

    private static void outside() {
        Checks c = new Checks("Calls answer OUTSIDE, ahead of all; CODE stays then");
        c.due("OUTSIDE", ArrayMaker.OUTSIDE, -2000000001);
        c.due("NONE", ArrayMaker.NONE, -1);
        c.x.raw(INTS, 1);
        c.beyond("get", c.x.get(0, 1, 0, 0), 0);
        for (int out : new int[] {-1, MIN, 9, MAX, ArrayMaker.OUTSIDE}) {
            c.outside("make(" + out + "), no dimension", c.x.make(out), 3);
            c.outside("raw(" + out + ", -1)", c.x.raw(out, -1), 3);
            c.outside("raw(" + out + ", 501)", c.x.raw(out, 501), 3);
            c.outside("gather(9, " + out + ")", c.x.gather(9, out), 3);
            c.outside("gather(0, " + out + ")", c.x.gather(0, out), 3);
            c.outside("join(9, 9, " + out + ")", c.x.join(9, 9, out), 3);
            c.outside("join(0, 0, " + out + ")", c.x.join(0, 0, out), 3);
            c.outside("about(9, " + out + ")", c.x.about(9, out), 3);
            c.outside("about(0, " + out + ")", c.x.about(0, out), 3);
        }
        c.outside("make(5)", c.x.make(5), 3);
        c.outside("raw(4, 1): TABLES", c.x.raw(4, 1), 3);
        c.outside("gather(0, 6)", c.x.gather(0, 6), 3);
        c.outside("join(0, 0, 6)", c.x.join(0, 0, 6), 3);
        c.due("which() stays, too", c.x.which(), 0);
        c.ok("about(0, 8 - 6)", c.x.about(0, 2), 1);
        c.outside("about(0, 9) behind CODE 0", c.x.about(0, 9), 0);
    }

    /** The last ones that are in bounds are not OUTSIDE. */
    private static void lastInBounds() {
        Checks c = new Checks("what a comment bounds, at its bounds");
        c.stopped("make(0)", c.x.make(0), 9);
        c.stopped("make(4)", c.x.make(4), 9);
        c.stopped("raw(0, -1)", c.x.raw(0, -1), 4);
        c.stopped("raw(3, -1)", c.x.raw(3, -1), 4);
        c.stopped("gather(0, 0)", c.x.gather(0, 0), 7);
        c.stopped("gather(0, 5)", c.x.gather(0, 5), 7);
        c.stopped("join(0, 0, 0)", c.x.join(0, 0, 0), 7);
        c.stopped("join(0, 0, 5)", c.x.join(0, 0, 5), 7);
        c.stopped("about(0, 0)", c.x.about(0, 0), 7);
        c.stopped("about(0, 8)", c.x.about(0, 8), 7);
    }

    public static void main(String[] args) {
        noDimension();
        threeDimensions();
        lowAndHighAreInts();
        lengthWithoutEnd();
        lengthAtTheEndsOfInts();
        lengthBelowZero();
        twoLengthsBelowZero();
        calls512();
        arrays24();
        noRoomForAny();
        noSuchArray();
        kindsHold();
        lowestBits();
        lengthsMultiplied();
        notLookedAt();
        lowToHigh();
        indexesDoNotWrap();
        orderInTheRow();
        atFirst();
        itemsStay();
        whatIsPutIsInAll();
        rowsOfTheirOwn();
        orNothing();
        whateverHighIs();
        placesOfRowsDoNotWrap();
        moreThan500();
        productsWithoutEnd();
        outside();
        lastInBounds();
        Checks.end();
    }
}
