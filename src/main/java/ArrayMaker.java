import java.util.Arrays;

/**
 * Arrays by ranges of indexes, as the document DOC.md promises them.
 *
 * All ITEMS lie in one store of cells, and a ROW is a number there: arrays that share a ROW hold
 * the same number, and a run of calls makes few objects however many ROWS it asks for.
 */
public final class ArrayMaker {
    public static final int NONE = -1, OUTSIDE = -2000000001;

    private static final int BYTES = 0, INTS = 1, LONGS = 2, BOXES = 3, TABLES = 4;

    private static final int REPLACE = 0, ADD = 1, GREATER = 2, LESSER = 3, DIVIDE = 4, LEFT_OVER = 5;

    private static final int DONE = 0, NOTHING = 1, OTHER_KIND = 2, NO_ITEM = 3, BELOW_ZERO = 4,
            TOO_MANY = 5, BY_ZERO = 6, NO_ARRAY = 7, NO_ROOM = 8, OTHER_DIMENSIONS = 9,
            OTHER_COUNT = 10, UNEVEN = 11;

    private static final int ABOUT_KIND = 0, ABOUT_DIMENSIONS = 1, ABOUT_ITEMS = 2, ABOUT_LOW = 3,
            ABOUT_LAST = 8;

    private static final int MOST_ARRAYS = 24, MOST_DIMENSIONS = 3, MOST_ITEMS = 500,
            MOST_RAGGED = 100, MOST_LINES = 30, MOST_CALLS = 512;

    // Between two clears every array takes at most 500 cells and 500 rows, every call of ragged
    // 100 cells and a row, so within its 512 calls no object meets these two bounds.
    private static final int MOST_CELLS = MOST_ARRAYS * MOST_ITEMS + MOST_CALLS * MOST_RAGGED;
    private static final int MOST_ROWS = MOST_ARRAYS * MOST_ITEMS + MOST_CALLS;

    private final Shape shape = new Shape();
    private final Lines list = new Lines();
    private final Store store = new Store();
    private final MadeArray[] arrays = new MadeArray[MOST_ARRAYS];
    // For each place of an array that is being made, the cell that its item comes from.
    private final int[] sources = new int[MOST_ITEMS];
    private int made = 0;
    private int code = DONE;
    private int which = NONE;

    public ArrayMaker() {
        for (int n = 0; n < MOST_ARRAYS; n++) {
            arrays[n] = new MadeArray();
        }
    }

    public int code() {
        return code;
    }

    public int which() {
        return which;
    }

    public int range(int low, int high) {
        if (shape.count >= MOST_DIMENSIONS) {
            return stop(NO_ROOM);
        }
        shape.add(low, high);
        return done(shape.count);
    }

    public int shapeless() {
        int had = shape.count;
        shape.count = 0;
        return done(had);
    }

    public int make(int kind) {
        if (kind < BYTES || kind > TABLES) {
            return OUTSIDE;
        }
        int reason = whyNotMade(kind);
        if (reason != DONE) {
            return stop(reason);
        }
        MadeArray array = nextArrayIn(shape, kind);
        if (kind == TABLES) {
            addTableRows(array);
        } else {
            addOwnRow(array);
        }
        shape.count = 0;
        return done(made - 1);
    }

    public int raw(int kind, int n) {
        if (kind < BYTES || kind > BOXES) {
            return OUTSIDE;
        }
        if (n < 0) {
            return stop(BELOW_ZERO);
        }
        if (n > MOST_ITEMS) {
            return stop(TOO_MANY);
        }
        if (!hasRoom(1, n)) {
            return stop(NO_ROOM);
        }
        MadeArray array = nextArray(kind);
        array.shape.add(0, n - 1);
        addOwnRow(array);
        return done(made - 1);
    }

    public int see(int a) {
        MadeArray from = arrayOf(a);
        int reason = whyNoRow(from);
        if (reason != DONE) {
            return stop(reason);
        }
        if (shape.count == 0) {
            return stop(OTHER_DIMENSIONS);
        }
        if (shape.items() != store.lengthOf(from.row)) {
            return stop(OTHER_COUNT);
        }
        if (!hasRoom(0, 0)) {
            return stop(NO_ROOM);
        }
        nextArrayIn(shape, from.kind).row = from.row;
        shape.count = 0;
        return done(made - 1);
    }

    public int turn(int a) {
        MadeArray from = arrayOf(a);
        int reason = whyNoRow(from);
        if (reason != DONE) {
            return stop(reason);
        }
        if (from.shape.count < 2) {
            return stop(OTHER_DIMENSIONS);
        }
        if (!hasRoom(1, store.lengthOf(from.row))) {
            return stop(NO_ROOM);
        }
        findTurned(from);
        MadeArray array = nextArrayIn(from.shape, from.kind);
        array.shape.swapFirstTwo();
        addOwnRow(array);
        copySources(array);
        return done(made - 1);
    }

    public int cut(int a) {
        MadeArray from = arrayOf(a);
        int reason = whyNoRow(from);
        if (reason != DONE) {
            return stop(reason);
        }
        if (shape.count != from.shape.count) {
            return stop(OTHER_DIMENSIONS);
        }
        int items = shape.items();
        if (items > MOST_ITEMS) {
            return stop(TOO_MANY);
        }
        int beyond = findCut(from);
        if (beyond != NONE) {
            return stopBeyond(beyond);
        }
        if (!hasRoom(1, items)) {
            return stop(NO_ROOM);
        }
        MadeArray array = nextArrayIn(shape, from.kind);
        addOwnRow(array);
        copySources(array);
        shape.count = 0;
        return done(made - 1);
    }

    public int deep(int a) {
        MadeArray from = arrayOf(a);
        int reason = whyNotDeep(from);
        if (reason != DONE) {
            return stop(reason);
        }
        MadeArray table = nextArrayIn(from.shape, TABLES);
        addTableRows(table);
        int source = store.startOf(from.row);
        for (int r = 0; r < table.rowCount(); r++) {
            int row = table.rows[r];
            store.copyCells(source, store.startOf(row), store.lengthOf(row));
            source += store.lengthOf(row);
        }
        return done(made - 1);
    }

    public int flat(int a) {
        MadeArray table = arrayOf(a);
        int reason = whyNotFlat(table);
        if (reason != DONE) {
            return stop(reason);
        }
        MadeArray array = nextArrayIn(table.shape, INTS);
        addOwnRow(array);
        int target = store.startOf(array.row);
        for (int r = 0; r < table.rowCount(); r++) {
            int row = table.rows[r];
            store.copyCells(store.startOf(row), target, store.lengthOf(row));
            target += store.lengthOf(row);
        }
        return done(made - 1);
    }

    public int ragged(int a, int i, int n) {
        MadeArray table = arrayOf(a);
        int reason = whyNoTableRow(table, i);
        if (reason != DONE) {
            return stop(reason);
        }
        if (n < 0) {
            return stop(BELOW_ZERO);
        }
        if (n > MOST_RAGGED) {
            return stop(TOO_MANY);
        }
        // Only an object past its 512th call can be stopped here.
        if (!store.reserve(1, n)) {
            return stop(NO_ROOM);
        }
        table.rows[table.shape.offset(0, i)] = store.addRow(n, true);
        return done(1);
    }

    public int without(int a, int i) {
        MadeArray table = arrayOf(a);
        int reason = whyNoTableRow(table, i);
        if (reason != DONE) {
            return stop(reason);
        }
        table.rows[table.shape.offset(0, i)] = NONE;
        return done(1);
    }

    public int tie(int a, int i, int b, int h) {
        MadeArray to = arrayOf(a);
        MadeArray from = arrayOf(b);
        if (to == null || from == null) {
            return stop(NO_ARRAY);
        }
        if (to.kind != TABLES || from.kind != TABLES) {
            return stop(OTHER_KIND);
        }
        if (!to.shape.holds(0, i)) {
            return stopBeyond(0);
        }
        if (!from.shape.holds(0, h)) {
            return stopBeyond(1);
        }
        to.rows[to.shape.offset(0, i)] = from.rows[from.shape.offset(0, h)];
        return done(1);
    }

    public long get(int a, int i, int j, int k) {
        int cell = cellOf(arrayOf(a), i, j, k);
        if (cell == NONE) {
            return 0;
        }
        if (!store.filled[cell]) {
            return stop(NOTHING);
        }
        code = DONE;
        return store.numbers[cell];
    }

    public int put(int a, int i, int j, int k, long v) {
        MadeArray array = arrayOf(a);
        int cell = cellOf(array, i, j, k);
        if (cell == NONE || array == null) {
            return 0;
        }
        store.fill(cell, fitted(array.kind, v));
        return done(1);
    }

    public int empty(int a, int i, int j, int k) {
        MadeArray array = arrayOf(a);
        if (array == null) {
            return stop(NO_ARRAY);
        }
        if (array.kind != BOXES) {
            return stop(OTHER_KIND);
        }
        int cell = cellOf(array, i, j, k);
        if (cell == NONE) {
            return 0;
        }
        store.drain(cell);
        return done(1);
    }

    public int pair(int i, int j, int k, long v) {
        if (list.count >= MOST_LINES) {
            return stop(NO_ROOM);
        }
        list.add(i, j, k, v);
        return done(list.count);
    }

    public int gather(int a, int way) {
        if (way < REPLACE || way > LEFT_OVER) {
            return OUTSIDE;
        }
        MadeArray array = arrayOf(a);
        int reason = whyNoRow(array);
        if (reason != DONE) {
            return stop(reason);
        }
        for (int n = 0; n < list.count; n++) {
            int cell = cellOf(array, list.i[n], list.j[n], list.k[n]);
            if (cell == NONE) {
                return n;
            }
            if (!joinCell(array.kind, cell, list.v[n], way)) {
                return tell(BY_ZERO, n);
            }
        }
        int lines = list.count;
        list.count = 0;
        return done(lines);
    }

    public int join(int a, int b, int way) {
        if (way < REPLACE || way > LEFT_OVER) {
            return OUTSIDE;
        }
        MadeArray to = arrayOf(a);
        MadeArray from = arrayOf(b);
        int reason = whyNotJoined(to, from);
        if (reason != DONE) {
            return stop(reason);
        }
        int target = store.startOf(to.row);
        int source = store.startOf(from.row);
        int items = store.lengthOf(to.row);
        for (int p = 0; p < items; p++) {
            if (!store.filled[source + p]) {
                return tell(NOTHING, p);
            }
            if (!joinCell(to.kind, target + p, store.numbers[source + p], way)) {
                return tell(BY_ZERO, p);
            }
        }
        return done(items);
    }

    public long sum(int a) {
        MadeArray array = arrayOf(a);
        if (array == null) {
            return stop(NO_ARRAY);
        }
        code = DONE;
        if (array.kind != TABLES) {
            return store.totalOf(array.row);
        }
        long total = 0;
        for (int r = 0; r < array.rowCount(); r++) {
            total += store.totalOf(array.rows[r]);
        }
        return total;
    }

    public long mean(int a) {
        MadeArray array = arrayOf(a);
        if (array == null) {
            return stop(NO_ARRAY);
        }
        if (array.kind > LONGS) {
            return stop(OTHER_KIND);
        }
        int items = store.lengthOf(array.row);
        if (items == 0) {
            return stop(BY_ZERO);
        }
        code = DONE;
        return store.totalOf(array.row) / items;
    }

    public int about(int a, int what) {
        if (what < ABOUT_KIND || what > ABOUT_LAST) {
            return OUTSIDE;
        }
        MadeArray array = arrayOf(a);
        if (array == null) {
            return stop(NO_ARRAY);
        }
        if (what == ABOUT_KIND) {
            return done(array.kind);
        }
        if (what == ABOUT_DIMENSIONS) {
            return done(array.shape.count);
        }
        if (what == ABOUT_ITEMS) {
            return done(itemsOf(array));
        }
        int dimension = (what - ABOUT_LOW) / 2;
        if (dimension >= array.shape.count) {
            return stop(OTHER_DIMENSIONS);
        }
        boolean lowWanted = (what - ABOUT_LOW) % 2 == 0;
        return done(lowWanted ? array.shape.low[dimension] : array.shape.high[dimension]);
    }

    public int same(int a, int b) {
        MadeArray one = arrayOf(a);
        MadeArray other = arrayOf(b);
        if (one == null || other == null) {
            return stop(NO_ARRAY);
        }
        return done(haveSameRows(one, other) ? 1 : 0);
    }

    public int compare(int a, int b) {
        MadeArray one = arrayOf(a);
        MadeArray other = arrayOf(b);
        if (one == null || other == null) {
            return stop(NO_ARRAY);
        }
        if (one.kind != other.kind || one.kind > LONGS) {
            return stop(OTHER_KIND);
        }
        return done(store.orderOf(one.row, other.row));
    }

    public int clear() {
        int had = made;
        made = 0;
        shape.count = 0;
        list.count = 0;
        store.forget();
        code = DONE;
        which = NONE;
        return had;
    }

    private int tell(int reason, int answer) {
        code = reason;
        return answer;
    }

    private int done(int answer) {
        return tell(DONE, answer);
    }

    private int stop(int reason) {
        return tell(reason, 0);
    }

    private int stopBeyond(int dimension) {
        which = dimension;
        return stop(NO_ITEM);
    }

    /** The array of a number, or null. */
    private MadeArray arrayOf(int number) {
        return number >= 0 && number < made ? arrays[number] : null;
    }

    private boolean hasRoom(int rows, int cells) {
        return made < MOST_ARRAYS && store.reserve(rows, cells);
    }

    private int whyNotMade(int kind) {
        if (shape.count == 0 || kind == TABLES && shape.count != 2) {
            return OTHER_DIMENSIONS;
        }
        int items = shape.items();
        if (items > MOST_ITEMS || kind == TABLES && shape.length(0) > MOST_ITEMS) {
            return TOO_MANY;
        }
        int rows = kind == TABLES ? (int) shape.length(0) : 1;
        return hasRoom(rows, items) ? DONE : NO_ROOM;
    }

    private int whyNoRow(MadeArray array) {
        if (array == null) {
            return NO_ARRAY;
        }
        return array.kind == TABLES ? OTHER_KIND : DONE;
    }

    private int whyNotDeep(MadeArray from) {
        if (from == null) {
            return NO_ARRAY;
        }
        if (from.kind != INTS) {
            return OTHER_KIND;
        }
        if (from.shape.count != 2) {
            return OTHER_DIMENSIONS;
        }
        if (from.shape.length(0) > MOST_ITEMS) {
            return TOO_MANY;
        }
        int rows = (int) from.shape.length(0);
        return hasRoom(rows, store.lengthOf(from.row)) ? DONE : NO_ROOM;
    }

    private int whyNotFlat(MadeArray table) {
        if (table == null) {
            return NO_ARRAY;
        }
        if (table.kind != TABLES) {
            return OTHER_KIND;
        }
        long due = table.shape.length(1);
        for (int r = 0; r < table.rowCount(); r++) {
            int row = table.rows[r];
            if (row == NONE) {
                return NOTHING;
            }
            if (store.lengthOf(row) != due) {
                return UNEVEN;
            }
        }
        return hasRoom(1, table.shape.items()) ? DONE : NO_ROOM;
    }

    /** Why TABLES have no row of index i; where it is the index, its dimension is told, too. */
    private int whyNoTableRow(MadeArray table, int i) {
        if (table == null) {
            return NO_ARRAY;
        }
        if (table.kind != TABLES) {
            return OTHER_KIND;
        }
        if (!table.shape.holds(0, i)) {
            which = 0;
            return NO_ITEM;
        }
        return DONE;
    }

    private int whyNotJoined(MadeArray to, MadeArray from) {
        if (to == null || from == null) {
            return NO_ARRAY;
        }
        if (to.kind != from.kind || to.kind == TABLES) {
            return OTHER_KIND;
        }
        return store.lengthOf(to.row) == store.lengthOf(from.row) ? DONE : OTHER_COUNT;
    }

    /** The next array, without dimensions and rows yet; hasRoom has been asked before. */
    private MadeArray nextArray(int kind) {
        MadeArray array = arrays[made];
        made++;
        array.kind = kind;
        array.row = NONE;
        array.shape.count = 0;
        return array;
    }

    private MadeArray nextArrayIn(Shape itsShape, int kind) {
        MadeArray array = nextArray(kind);
        array.shape.addAll(itsShape);
        return array;
    }

    private void addOwnRow(MadeArray array) {
        array.row = store.addRow(array.shape.items(), array.kind != BOXES);
    }

    private void addTableRows(MadeArray table) {
        int count = table.rowCount();
        if (table.rows.length < count) {
            table.rows = new int[count];
        }
        // Without a row the second length may be above every int; it is not used then.
        int length = count == 0 ? 0 : (int) table.shape.length(1);
        for (int r = 0; r < count; r++) {
            table.rows[r] = store.addRow(length, true);
        }
    }

    private void findTurned(MadeArray from) {
        if (store.lengthOf(from.row) == 0) {
            return;
        }
        int first = (int) from.shape.length(0);
        int second = (int) from.shape.length(1);
        int third = (int) from.shape.length(2);
        int start = store.startOf(from.row);
        int place = 0;
        for (int y = 0; y < second; y++) {
            for (int x = 0; x < first; x++) {
                for (int z = 0; z < third; z++) {
                    sources[place] = start + (x * second + y) * third + z;
                    place++;
                }
            }
        }
    }

    /** NONE, or the first dimension that is beyond, of the first item that is not there. */
    private int findCut(MadeArray from) {
        if (shape.items() == 0) {
            return NONE;
        }
        int start = store.startOf(from.row);
        int place = 0;
        for (int x = 0; x < shape.length(0); x++) {
            for (int y = 0; y < shape.length(1); y++) {
                for (int z = 0; z < shape.length(2); z++) {
                    int i = shape.low[0] + x;
                    int j = shape.low[1] + y;
                    int k = shape.low[2] + z;
                    int beyond = from.shape.firstBeyond(i, j, k);
                    if (beyond != NONE) {
                        return beyond;
                    }
                    sources[place] = start + from.shape.place(i, j, k);
                    place++;
                }
            }
        }
        return NONE;
    }

    private void copySources(MadeArray to) {
        int start = store.startOf(to.row);
        for (int p = 0; p < store.lengthOf(to.row); p++) {
            store.copyCells(sources[p], start + p, 1);
        }
    }

    /** The cell of an item; NONE, and why has been told, where there is none. */
    private int cellOf(MadeArray array, int i, int j, int k) {
        if (array == null) {
            stop(NO_ARRAY);
            return NONE;
        }
        if (array.kind == TABLES) {
            return tableCellOf(array, i, j);
        }
        int beyond = array.shape.firstBeyond(i, j, k);
        if (beyond != NONE) {
            stopBeyond(beyond);
            return NONE;
        }
        return store.startOf(array.row) + array.shape.place(i, j, k);
    }

    private int tableCellOf(MadeArray table, int i, int j) {
        if (!table.shape.holds(0, i)) {
            stopBeyond(0);
            return NONE;
        }
        int row = table.rows[table.shape.offset(0, i)];
        if (row == NONE) {
            stop(NOTHING);
            return NONE;
        }
        long place = (long) j - table.shape.low[1];
        if (place < 0 || place >= store.lengthOf(row)) {
            stopBeyond(1);
            return NONE;
        }
        return store.startOf(row) + (int) place;
    }

    private int itemsOf(MadeArray array) {
        if (array.kind != TABLES) {
            return store.lengthOf(array.row);
        }
        int items = 0;
        for (int r = 0; r < array.rowCount(); r++) {
            items += store.lengthOf(array.rows[r]);
        }
        return items;
    }

    private static boolean haveSameRows(MadeArray one, MadeArray other) {
        if (one.kind != TABLES || other.kind != TABLES) {
            // TABLES have no row of their own (NONE), so they are never the same as others.
            return one.row == other.row;
        }
        if (one.rowCount() != other.rowCount()) {
            return false;
        }
        for (int r = 0; r < one.rowCount(); r++) {
            if (one.rows[r] != other.rows[r]) {
                return false;
            }
        }
        return true;
    }

    /** Whether it was done; false: it would have divided by 0. */
    private boolean joinCell(int kind, int cell, long v, int way) {
        if (!store.filled[cell]) {
            store.fill(cell, fitted(kind, v));
            return true;
        }
        if (v == 0 && (way == DIVIDE || way == LEFT_OVER)) {
            return false;
        }
        store.fill(cell, fitted(kind, joined(store.numbers[cell], v, way)));
        return true;
    }

    private static long joined(long o, long v, int way) {
        switch (way) {
            case ADD:
                return o + v;
            case GREATER:
                return Math.max(o, v);
            case LESSER:
                return Math.min(o, v);
            case DIVIDE:
                return v == 0 ? 0 : o / v;
            case LEFT_OVER:
                return v == 0 ? 0 : o % v;
            default:
                return v;
        }
    }

    private static long fitted(int kind, long v) {
        if (kind == BYTES) {
            return (byte) v;
        }
        return kind == INTS || kind == TABLES ? (int) v : v;
    }

    /** Up to three dimensions; those that are not there count as one index that is not looked at. */
    private static final class Shape {
        final int[] low = new int[MOST_DIMENSIONS];
        final int[] high = new int[MOST_DIMENSIONS];
        int count;

        void add(int newLow, int newHigh) {
            if (count < MOST_DIMENSIONS) {
                low[count] = newLow;
                high[count] = newHigh;
                count++;
            }
        }

        void addAll(Shape other) {
            for (int d = 0; d < other.count; d++) {
                add(other.low[d], other.high[d]);
            }
        }

        void swapFirstTwo() {
            int keptLow = low[0];
            int keptHigh = high[0];
            low[0] = low[1];
            high[0] = high[1];
            low[1] = keptLow;
            high[1] = keptHigh;
        }

        long length(int dimension) {
            if (dimension >= count) {
                return 1;
            }
            return Math.max(0L, (long) high[dimension] - low[dimension] + 1);
        }

        /** The lengths multiplied; MOST_ITEMS + 1 stands for every number above MOST_ITEMS. */
        int items() {
            long product = 1;
            for (int d = 0; d < count; d++) {
                product = Math.min(product, MOST_ITEMS + 1) * length(d);
            }
            return (int) Math.min(product, MOST_ITEMS + 1);
        }

        boolean holds(int dimension, int index) {
            return low[dimension] <= index && index <= high[dimension];
        }

        int offset(int dimension, int index) {
            return index - low[dimension];
        }

        /** The first dimension that lacks its index, or NONE. */
        int firstBeyond(int i, int j, int k) {
            for (int d = 0; d < count; d++) {
                if (!holds(d, indexOf(d, i, j, k))) {
                    return d;
                }
            }
            return NONE;
        }

        /** Where an item that is there lies in its row. */
        int place(int i, int j, int k) {
            int place = 0;
            for (int d = 0; d < count; d++) {
                place = place * (int) length(d) + offset(d, indexOf(d, i, j, k));
            }
            return place;
        }

        private static int indexOf(int dimension, int i, int j, int k) {
            if (dimension == 0) {
                return i;
            }
            return dimension == 1 ? j : k;
        }
    }

    /** An array: it has a row, or (TABLES) a row for each index of its first dimension. */
    private static final class MadeArray {
        final Shape shape = new Shape();
        int kind;
        int row = NONE;
        int[] rows = new int[0];

        /** Of TABLES alone, whose first length is at most MOST_ITEMS. */
        int rowCount() {
            return (int) shape.length(0);
        }
    }

    private static final class Lines {
        final int[] i = new int[MOST_LINES];
        final int[] j = new int[MOST_LINES];
        final int[] k = new int[MOST_LINES];
        final long[] v = new long[MOST_LINES];
        int count;

        void add(int newI, int newJ, int newK, long newV) {
            if (count < MOST_LINES) {
                i[count] = newI;
                j[count] = newJ;
                k[count] = newK;
                v[count] = newV;
                count++;
            }
        }
    }

    /**
     * The cells of all rows. Rows are told apart by number, not by where they start, since rows
     * without items start where others do. Cells that hold nothing keep the number 0.
     */
    private static final class Store {
        long[] numbers = new long[64];
        boolean[] filled = new boolean[64];
        private int[] starts = new int[32];
        private int[] lengths = new int[32];
        private int cellCount;
        private int rowCount;

        /** Whether there is room for so many more; addRow can be called for them then. */
        boolean reserve(int rows, int cells) {
            if (rows > MOST_ROWS - rowCount || cells > MOST_CELLS - cellCount) {
                return false;
            }
            growRows(rowCount + rows);
            growCells(cellCount + cells);
            return true;
        }

        private void growRows(int wanted) {
            if (wanted > starts.length) {
                int size = Math.max(wanted, 2 * starts.length);
                starts = Arrays.copyOf(starts, size);
                lengths = Arrays.copyOf(lengths, size);
            }
        }

        private void growCells(int wanted) {
            if (wanted > numbers.length) {
                int size = Math.max(wanted, 2 * numbers.length);
                numbers = Arrays.copyOf(numbers, size);
                filled = grown(filled, size);
            }
        }

        // The library's copies are for arrays of numbers alone.
        private static boolean[] grown(boolean[] marks, int size) {
            boolean[] longer = new boolean[size];
            for (int n = 0; n < marks.length && n < size; n++) {
                longer[n] = marks[n];
            }
            return longer;
        }

        int addRow(int length, boolean fillIt) {
            int row = rowCount;
            starts[row] = cellCount;
            lengths[row] = length;
            // The cells may have been another row's ahead of a clear.
            for (int cell = cellCount; cell < cellCount + length; cell++) {
                numbers[cell] = 0;
                filled[cell] = fillIt;
            }
            rowCount++;
            cellCount += length;
            return row;
        }

        void forget() {
            cellCount = 0;
            rowCount = 0;
        }

        int startOf(int row) {
            return row == NONE ? 0 : starts[row];
        }

        int lengthOf(int row) {
            return row == NONE ? 0 : lengths[row];
        }

        void fill(int cell, long number) {
            numbers[cell] = number;
            filled[cell] = true;
        }

        void drain(int cell) {
            numbers[cell] = 0;
            filled[cell] = false;
        }

        void copyCells(int source, int target, int count) {
            for (int n = 0; n < count; n++) {
                numbers[target + n] = numbers[source + n];
                filled[target + n] = filled[source + n];
            }
        }

        long totalOf(int row) {
            long total = 0;
            for (int p = 0; p < lengthOf(row); p++) {
                total += numbers[startOf(row) + p];
            }
            return total;
        }

        int orderOf(int one, int other) {
            int shared = Math.min(lengthOf(one), lengthOf(other));
            for (int p = 0; p < shared; p++) {
                int order = Long.compare(numbers[startOf(one) + p], numbers[startOf(other) + p]);
                if (order != 0) {
                    return order;
                }
            }
            return Integer.compare(lengthOf(one), lengthOf(other));
        }
    }
}
