import java.util.ArrayList;
import java.util.List;
import java.util.function.Function;
import java.util.function.ToLongFunction;

/**
 * "CODES, of several the first that is told", and "a call with a CODE above 0 answers 0, and has
 * changed nothing": each refused call, with its CODE, on one of two objects that have had the same
 * calls; whatever is asked of both behind it has the same answers.
 */
public final class RefusedTest {
    private static final int MIN = Integer.MIN_VALUE, MAX = Integer.MAX_VALUE;
    private static final int INTS_2_BY_3 = 0, TABLE = 1, BOXES_3 = 2, LONGS_2_BY_2_BY_2 = 3, BYTES_4 = 4,
            RAGGED_FIRST = 5, NOTHING_FIRST = 6, LONGS_SEEN = 7, INTS_501_ROWS = 8, LONGS_NONE = 9,
            INTS_501_BY_0_BY_1 = 10, BOXES_OTHER = 11, LONGS_4 = 12, BOXES_NONE = 13, TABLE_NO_ROW = 14,
            SINGLE = 15, MADE = 16, NO_SUCH = 24, WHICH_AHEAD = 2;
    private static int wrong = 0;

    private static void check(boolean right, String told) {
        if (!right) {
            wrong++;
            System.out.println(told);
        }
    }

    private static int make(ArrayMaker x, int kind, int... bounds) {
        shape(x, bounds);
        return x.make(kind);
    }

    private static void shape(ArrayMaker x, int... bounds) {
        x.shapeless();
        for (int n = 0; n < bounds.length; n += 2) {
            x.range(bounds[n], bounds[n + 1]);
        }
    }

    private static void makeArrays(ArrayMaker x) {
        make(x, 1, 1, 2, 5, 7);
        make(x, 4, 1, 2, 1, 2);
        make(x, 3, 1, 3);
        make(x, 2, 1, 2, 1, 2, 1, 2);
        x.raw(0, 4);
        make(x, 4, 1, 2, 1, 2);
        make(x, 4, 1, 2, 1, 2);
        shape(x, 1, 8);
        x.see(LONGS_2_BY_2_BY_2);
        make(x, 1, 0, 500, 1, 0);
        x.raw(2, 0);
        make(x, 1, 1, 501, 1, 0, 1, 1);
        make(x, 3, 0, 2);
        x.raw(2, 4);
        x.raw(3, 0);
        make(x, 4, 1, 0, 1, 2);
        int last = x.raw(1, 1);
        check(last == SINGLE, "the arrays are not those that the tests want");
    }

    private static void putItems(ArrayMaker x) {
        x.put(INTS_2_BY_3, 2, 7, 0, 17);
        x.put(TABLE, 2, 1, 0, 21);
        x.put(BOXES_3, 2, 0, 0, 32);
        x.put(LONGS_2_BY_2_BY_2, 2, 1, 2, 212);
        x.put(BYTES_4, 3, 0, 0, -4);
        x.ragged(RAGGED_FIRST, 1, 3);
        x.without(RAGGED_FIRST, 2);
        x.without(NOTHING_FIRST, 1);
        x.ragged(NOTHING_FIRST, 2, 1);
        x.put(NOTHING_FIRST, 2, 1, 0, 61);
        x.put(LONGS_4, 0, 0, 0, 5);
    }

    /** A new object with arrays of all kinds, two lines in THE LIST, a SHAPE, and which() 2. */
    private static ArrayMaker rich(boolean full, int[] bounds) {
        ArrayMaker x = new ArrayMaker();
        makeArrays(x);
        putItems(x);
        for (int n = MADE; full && n < 24; n++) {
            x.raw(0, 1);
        }
        x.pair(1, 2, 3, 40);
        x.pair(0, 0, 0, 41);
        shape(x, bounds);
        x.get(LONGS_2_BY_2_BY_2, 1, 1, 3);
        return x;
    }

    private static List<Long> aboutAll(ArrayMaker x) {
        List<Long> answers = new ArrayList<>();
        for (int a = 0; a < MADE; a++) {
            for (int what = 0; what <= 8; what++) {
                answers.add((long) x.about(a, what));
            }
        }
        return answers;
    }

    private static List<Long> firstItems(ArrayMaker x) {
        return itemsOf(x, 0, 8);
    }

    private static List<Long> lastItems(ArrayMaker x) {
        return itemsOf(x, 8, MADE);
    }

    private static List<Long> itemsOf(ArrayMaker x, int from, int to) {
        List<Long> answers = new ArrayList<>();
        for (int a = from; a < to; a++) {
            int low = x.about(a, 5);
            for (int n = 0; n < 20; n++) {
                answers.add(x.get(a, n / 4, low + n % 4, 1 + n % 2));
                answers.add((long) x.code());
            }
        }
        return answers;
    }

    private static List<Long> sums(ArrayMaker x) {
        List<Long> answers = new ArrayList<>();
        for (int a = 0; a < NO_SUCH; a++) {
            answers.add(x.sum(a));
            answers.add((long) x.code());
        }
        return answers;
    }

    private static List<Long> sameRows(ArrayMaker x) {
        List<Long> answers = new ArrayList<>();
        for (int a = 0; a < MADE; a++) {
            for (int b = 0; b < MADE; b++) {
                answers.add((long) x.same(a, b));
            }
        }
        return answers;
    }

    private static List<Long> lines(ArrayMaker x) {
        List<Long> answers = new ArrayList<>();
        answers.add((long) x.gather(BYTES_4, 0));
        answers.add((long) x.gather(BOXES_OTHER, 0));
        answers.add(x.sum(BYTES_4));
        answers.add(x.sum(BOXES_OTHER));
        answers.add((long) x.pair(0, 0, 0, 0));
        x.clear();
        return answers;
    }

    /** THE SHAPE's bounds, where there is room for an array to see them. */
    private static List<Long> shapeSeen(ArrayMaker x) {
        List<Long> answers = new ArrayList<>();
        answers.add((long) x.cut(INTS_2_BY_3));
        answers.add((long) x.make(3));
        for (int what = 0; what <= 8; what++) {
            answers.add((long) x.about(MADE, what));
        }
        answers.add((long) x.shapeless());
        return answers;
    }

    private static List<Long> shapeCounted(ArrayMaker x) {
        return List.of((long) x.shapeless(), (long) x.clear());
    }

    private static final List<Function<ArrayMaker, List<Long>>> LOOKS = List.of(RefusedTest::aboutAll,
            RefusedTest::firstItems, RefusedTest::lastItems, RefusedTest::sums, RefusedTest::sameRows,
            RefusedTest::lines, RefusedTest::shapeSeen, RefusedTest::shapeCounted);

    /** A call on the rich object, with a SHAPE, answers so, with a CODE and which(), and changes nothing. */
    private static void unchanged(String told, boolean full, int[] bounds, ToLongFunction<ArrayMaker> call,
            long answer, int code, int which) {
        for (int n = 0; n < LOOKS.size(); n++) {
            ArrayMaker x = rich(full, bounds);
            long got = call.applyAsLong(x);
            check(got == answer, told + ": answered " + got + ", due is " + answer);
            check(x.code() == code, told + ": CODE " + x.code() + ", due is " + code);
            check(x.which() == which, told + ": which() " + x.which() + ", due is " + which);
            List<Long> seen = LOOKS.get(n).apply(x);
            List<Long> due = LOOKS.get(n).apply(rich(full, bounds));
            check(seen.equals(due), told + " changed what look " + n + " sees: " + seen + ", due is " + due);
        }
    }

    private static final int[] NO_SHAPE = {}, ANY = {1, 1, 1, 1}, WIDE = {MIN, MAX, MIN, MAX};

    private static void refused(String told, int[] bounds, int code, ToLongFunction<ArrayMaker> call) {
        unchanged(told, false, bounds, call, 0, code, WHICH_AHEAD);
    }

    private static void refusedFull(String told, int[] bounds, int code, ToLongFunction<ArrayMaker> call) {
        unchanged(told, true, bounds, call, 0, code, WHICH_AHEAD);
    }

    private static void beyond(String told, int[] bounds, int which, ToLongFunction<ArrayMaker> call) {
        unchanged(told, false, bounds, call, 0, 3, which);
    }

    private static void outside(String told, boolean full, int[] bounds, ToLongFunction<ArrayMaker> call) {
        unchanged(told, full, bounds, call, ArrayMaker.OUTSIDE, 3, WHICH_AHEAD);
    }

    private static void shapesAndMakers() {
        refused("range 8", new int[] {1, 1, 1, 1, 1, 1}, 8, x -> x.range(0, 0));
        outside("make OUTSIDE ahead of 9", false, NO_SHAPE, x -> x.make(5));
        outside("make OUTSIDE ahead of 5, 8", true, WIDE, x -> x.make(-1));
        refused("make 9", NO_SHAPE, 9, x -> x.make(0));
        refusedFull("make 9 ahead of 8", NO_SHAPE, 9, x -> x.make(3));
        refused("make 9 of TABLES, none", NO_SHAPE, 9, x -> x.make(4));
        refused("make 9 of TABLES, one, ahead of 5", new int[] {1, 501}, 9, x -> x.make(4));
        refusedFull("make 9 of TABLES, three, ahead of 5, 8", new int[] {1, 501, 1, 1, 1, 1}, 9, x -> x.make(4));
        refused("make 5", new int[] {1, 501}, 5, x -> x.make(0));
        refusedFull("make 5 ahead of 8", WIDE, 5, x -> x.make(2));
        refused("make 5 of TABLES, ROWS", new int[] {1, 501, 1, 0}, 5, x -> x.make(4));
        refusedFull("make 5 of TABLES ahead of 8", new int[] {1, 501, 1, 0}, 5, x -> x.make(4));
        refusedFull("make 8", ANY, 8, x -> x.make(1));
        refusedFull("make 8 of TABLES", ANY, 8, x -> x.make(4));
        outside("raw OUTSIDE ahead of 4, 8", true, ANY, x -> x.raw(4, -1));
        outside("raw OUTSIDE ahead of 5", false, ANY, x -> x.raw(-1, 501));
        refused("raw 4", ANY, 4, x -> x.raw(0, -1));
        refusedFull("raw 4 ahead of 8", ANY, 4, x -> x.raw(0, MIN));
        refused("raw 5", ANY, 5, x -> x.raw(3, 501));
        refusedFull("raw 5 ahead of 8", ANY, 5, x -> x.raw(3, MAX));
        refusedFull("raw 8", ANY, 8, x -> x.raw(2, 0));
    }

    private static void seen() {
        refusedFull("see 7 ahead of 9, 8", NO_SHAPE, 7, x -> x.see(NO_SUCH));
        refused("see 7 ahead of 10", WIDE, 7, x -> x.see(-1));
        refused("see 2 ahead of 9", NO_SHAPE, 2, x -> x.see(TABLE));
        refusedFull("see 2 ahead of 10, 8", WIDE, 2, x -> x.see(TABLE));
        refused("see 9 ahead of 10", NO_SHAPE, 9, x -> x.see(INTS_2_BY_3));
        refused("see 9, one ITEM", NO_SHAPE, 9, x -> x.see(SINGLE));
        refused("see 9, no ITEM", NO_SHAPE, 9, x -> x.see(LONGS_NONE));
        refusedFull("see 9 ahead of 8", NO_SHAPE, 9, x -> x.see(BYTES_4));
        refused("see 10, fewer", new int[] {1, 5}, 10, x -> x.see(INTS_2_BY_3));
        refused("see 10, more", new int[] {1, 7}, 10, x -> x.see(INTS_2_BY_3));
        refused("see 10, without end", WIDE, 10, x -> x.see(LONGS_NONE));
        refusedFull("see 10 ahead of 8", ANY, 10, x -> x.see(INTS_2_BY_3));
        refusedFull("see 8", new int[] {1, 6}, 8, x -> x.see(INTS_2_BY_3));
    }

    private static void turnedAndCut() {
        refusedFull("turn 7 ahead of 8", ANY, 7, x -> x.turn(NO_SUCH));
        refused("turn 2", ANY, 2, x -> x.turn(TABLE));
        refusedFull("turn 2 ahead of 8", ANY, 2, x -> x.turn(TABLE));
        refused("turn 9", ANY, 9, x -> x.turn(BYTES_4));
        refusedFull("turn 9 ahead of 8", ANY, 9, x -> x.turn(BYTES_4));
        refusedFull("turn 8", ANY, 8, x -> x.turn(INTS_2_BY_3));
        refusedFull("cut 7 ahead of 9, 8", NO_SHAPE, 7, x -> x.cut(NO_SUCH));
        refused("cut 7 ahead of 5", WIDE, 7, x -> x.cut(MADE));
        refused("cut 2 ahead of 9", NO_SHAPE, 2, x -> x.cut(TABLE));
        refusedFull("cut 2 ahead of 5, 8", WIDE, 2, x -> x.cut(TABLE));
        refused("cut 2 ahead of 3", new int[] {0, 1, 1, 1}, 2, x -> x.cut(TABLE));
        refused("cut 9, none", NO_SHAPE, 9, x -> x.cut(INTS_2_BY_3));
        refused("cut 9, fewer", new int[] {1, 1}, 9, x -> x.cut(INTS_2_BY_3));
        refused("cut 9, more", new int[] {1, 1, 5, 5, 0, 0}, 9, x -> x.cut(INTS_2_BY_3));
        refusedFull("cut 9 ahead of 5, 8", new int[] {MIN, MAX}, 9, x -> x.cut(INTS_2_BY_3));
        refused("cut 9 ahead of 3", new int[] {9, 9}, 9, x -> x.cut(INTS_2_BY_3));
        refused("cut 5 ahead of 3", WIDE, 5, x -> x.cut(INTS_2_BY_3));
        refusedFull("cut 5 ahead of 8", WIDE, 5, x -> x.cut(INTS_2_BY_3));
        beyond("cut 3", new int[] {1, 2, 5, 8}, 1, x -> x.cut(INTS_2_BY_3));
        beyond("cut 3, the first DIMENSION", new int[] {0, 2, 5, 8}, 0, x -> x.cut(INTS_2_BY_3));
        unchanged("cut 3 ahead of 8", true, new int[] {1, 2, 5, 8}, x -> x.cut(INTS_2_BY_3), 0, 3, 1);
        refusedFull("cut 8", new int[] {1, 2, 5, 7}, 8, x -> x.cut(INTS_2_BY_3));
        refusedFull("cut 8, no ITEM", new int[] {1, 0, 5, 7}, 8, x -> x.cut(INTS_2_BY_3));
    }

    private static void deepAndFlat() {
        refusedFull("deep 7 ahead of 8", ANY, 7, x -> x.deep(NO_SUCH));
        refused("deep 2", ANY, 2, x -> x.deep(TABLE));
        refused("deep 2 ahead of 9", ANY, 2, x -> x.deep(BYTES_4));
        refusedFull("deep 2 ahead of 9, 8", ANY, 2, x -> x.deep(LONGS_2_BY_2_BY_2));
        refused("deep 9, one", ANY, 9, x -> x.deep(SINGLE));
        refusedFull("deep 9, three, ahead of 5, 8", ANY, 9, x -> x.deep(INTS_501_BY_0_BY_1));
        refused("deep 5", ANY, 5, x -> x.deep(INTS_501_ROWS));
        refusedFull("deep 5 ahead of 8", ANY, 5, x -> x.deep(INTS_501_ROWS));
        refusedFull("deep 8", ANY, 8, x -> x.deep(INTS_2_BY_3));
        refusedFull("flat 7 ahead of 8", ANY, 7, x -> x.flat(NO_SUCH));
        refused("flat 2", ANY, 2, x -> x.flat(INTS_2_BY_3));
        refusedFull("flat 2 ahead of 8", ANY, 2, x -> x.flat(INTS_2_BY_3));
        refused("flat 11, then nothing", ANY, 11, x -> x.flat(RAGGED_FIRST));
        refused("flat 1, then ragged", ANY, 1, x -> x.flat(NOTHING_FIRST));
        refusedFull("flat 11 ahead of 8", ANY, 11, x -> x.flat(RAGGED_FIRST));
        refusedFull("flat 1 ahead of 8", ANY, 1, x -> x.flat(NOTHING_FIRST));
        refusedFull("flat 8", ANY, 8, x -> x.flat(TABLE));
        refusedFull("flat 8, no ROW", ANY, 8, x -> x.flat(TABLE_NO_ROW));
    }

    private static void rowsOfTables() {
        refused("ragged 7 ahead of 4", ANY, 7, x -> x.ragged(NO_SUCH, 9, -1));
        refused("ragged 2 ahead of 3, 4", ANY, 2, x -> x.ragged(INTS_2_BY_3, 9, -1));
        refused("ragged 7 ahead of 5", ANY, 7, x -> x.ragged(-1, 1, 101));
        refused("ragged 2 ahead of 5", ANY, 2, x -> x.ragged(INTS_2_BY_3, 1, 101));
        beyond("ragged 3 ahead of 4", ANY, 0, x -> x.ragged(TABLE, 3, -1));
        beyond("ragged 3 ahead of 5", ANY, 0, x -> x.ragged(TABLE, 0, 101));
        beyond("ragged 3, no ROW", ANY, 0, x -> x.ragged(TABLE_NO_ROW, 1, 1));
        refused("ragged 4", ANY, 4, x -> x.ragged(TABLE, 1, -1));
        refused("ragged 5", ANY, 5, x -> x.ragged(TABLE, 1, 101));
        refused("without 7", ANY, 7, x -> x.without(NO_SUCH, 9));
        refused("without 2 ahead of 3", ANY, 2, x -> x.without(BOXES_3, 9));
        beyond("without 3, above", ANY, 0, x -> x.without(TABLE, 3));
        beyond("without 3, below", ANY, 0, x -> x.without(TABLE, 0));
        refused("tie 7 of a, ahead of 2 of b", ANY, 7, x -> x.tie(NO_SUCH, 1, BYTES_4, 1));
        refused("tie 7 of b, ahead of 2 of a", ANY, 7, x -> x.tie(BYTES_4, 1, NO_SUCH, 1));
        refused("tie 7 of b, ahead of 3 of a", ANY, 7, x -> x.tie(TABLE, 9, NO_SUCH, 1));
        refused("tie 2 of a, ahead of 3", ANY, 2, x -> x.tie(BYTES_4, 9, TABLE, 9));
        refused("tie 2 of b, ahead of 3", ANY, 2, x -> x.tie(TABLE, 9, BYTES_4, 9));
        beyond("tie 3 of a, ahead of b", ANY, 0, x -> x.tie(TABLE, 3, RAGGED_FIRST, 0));
        beyond("tie 3 of b", ANY, 1, x -> x.tie(TABLE, 2, RAGGED_FIRST, 0));
        beyond("tie 3 of b, no ROW", ANY, 1, x -> x.tie(TABLE, 2, TABLE_NO_ROW, 1));
    }

    private static void items() {
        refused("get 7", ANY, 7, x -> x.get(NO_SUCH, 9, 9, 9));
        beyond("get 3 of all, the first", ANY, 0, x -> x.get(LONGS_2_BY_2_BY_2, 0, 3, 3));
        beyond("get 3 of j, k", ANY, 1, x -> x.get(LONGS_2_BY_2_BY_2, 1, 3, 3));
        beyond("get 3 ahead of 1, a BOX", ANY, 0, x -> x.get(BOXES_3, 4, 0, 0));
        refused("get 1, a BOX", ANY, 1, x -> x.get(BOXES_3, 1, 0, 0));
        beyond("get 3 of i ahead of 1", ANY, 0, x -> x.get(RAGGED_FIRST, 3, 9, 0));
        refused("get 1 ahead of 3 of j", ANY, 1, x -> x.get(RAGGED_FIRST, 2, 9, 0));
        beyond("get 3 of j", ANY, 1, x -> x.get(RAGGED_FIRST, 1, 4, 0));
        refused("put 7", ANY, 7, x -> x.put(NO_SUCH, 9, 9, 9, 1));
        beyond("put 3 of all, the first", ANY, 0, x -> x.put(LONGS_2_BY_2_BY_2, 0, 3, 3, 1));
        beyond("put 3 of j, k", ANY, 1, x -> x.put(LONGS_2_BY_2_BY_2, 2, 0, 0, 1));
        beyond("put 3 of i ahead of 1", ANY, 0, x -> x.put(RAGGED_FIRST, 3, 9, 0, 1));
        refused("put 1 ahead of 3 of j", ANY, 1, x -> x.put(RAGGED_FIRST, 2, 9, 0, 1));
        beyond("put 3 of j", ANY, 1, x -> x.put(RAGGED_FIRST, 1, 0, 0, 1));
        refused("empty 7", ANY, 7, x -> x.empty(NO_SUCH, 9, 9, 9));
        refused("empty 2 ahead of 3", ANY, 2, x -> x.empty(LONGS_4, 9, 0, 0));
        refused("empty 2 of TABLES", ANY, 2, x -> x.empty(TABLE, 1, 1, 0));
        beyond("empty 3", ANY, 0, x -> x.empty(BOXES_3, 4, 0, 0));
    }

    private static void joined() {
        outside("gather OUTSIDE ahead of 7", false, ANY, x -> x.gather(NO_SUCH, 6));
        outside("gather OUTSIDE", false, ANY, x -> x.gather(BYTES_4, -1));
        refused("gather 7", ANY, 7, x -> x.gather(NO_SUCH, 0));
        refused("gather 2 ahead of 3", ANY, 2, x -> x.gather(TABLE, 0));
        beyond("gather 3 at the first line", ANY, 1, x -> x.gather(INTS_2_BY_3, 0));
        beyond("gather 3 at the first line, k", ANY, 2, x -> x.gather(LONGS_2_BY_2_BY_2, 0));
        outside("join OUTSIDE ahead of 7", false, ANY, x -> x.join(NO_SUCH, NO_SUCH, 6));
        outside("join OUTSIDE", false, ANY, x -> x.join(LONGS_4, LONGS_4, -1));
        refused("join 7 of a", ANY, 7, x -> x.join(NO_SUCH, TABLE, 1));
        refused("join 7 of b ahead of 2", ANY, 7, x -> x.join(TABLE, NO_SUCH, 1));
        refused("join 2, unlike, ahead of 10", ANY, 2, x -> x.join(LONGS_4, INTS_2_BY_3, 1));
        refused("join 2, TABLES", ANY, 2, x -> x.join(TABLE, TABLE, 1));
        refused("join 2, TABLES and INTS", ANY, 2, x -> x.join(TABLE, INTS_2_BY_3, 1));
        refused("join 2, INTS and TABLES", ANY, 2, x -> x.join(INTS_2_BY_3, TABLE, 1));
        refused("join 2, unlike, ahead of 6", ANY, 2, x -> x.join(LONGS_4, BYTES_4, 4));
        refused("join 2, unlike, ahead of 1, 10", ANY, 2, x -> x.join(LONGS_4, BOXES_3, 0));
        refused("join 10 ahead of 6", ANY, 10, x -> x.join(LONGS_4, LONGS_SEEN, 4));
        refused("join 10 ahead of 1", ANY, 10, x -> x.join(BOXES_NONE, BOXES_3, 0));
        refused("join 10, none", ANY, 10, x -> x.join(LONGS_4, LONGS_NONE, 0));
        refused("join 1 at the first ITEM", ANY, 1, x -> x.join(BOXES_OTHER, BOXES_3, 0));
        refused("join 6 at the first ITEM, divided", ANY, 6, x -> x.join(LONGS_SEEN, LONGS_2_BY_2_BY_2, 4));
        refused("join 6 at the first ITEM, left", ANY, 6, x -> x.join(LONGS_SEEN, LONGS_2_BY_2_BY_2, 5));
    }

    private static void numbers() {
        refused("sum 7", ANY, 7, x -> x.sum(NO_SUCH));
        refused("mean 7", ANY, 7, x -> x.mean(NO_SUCH));
        refused("mean 2 of BOXES ahead of 6", ANY, 2, x -> x.mean(BOXES_NONE));
        refused("mean 2 of TABLES ahead of 6", ANY, 2, x -> x.mean(TABLE_NO_ROW));
        refused("mean 6", ANY, 6, x -> x.mean(LONGS_NONE));
        outside("about OUTSIDE ahead of 7", false, ANY, x -> x.about(NO_SUCH, 9));
        outside("about OUTSIDE", false, ANY, x -> x.about(BYTES_4, -1));
        refused("about 7", ANY, 7, x -> x.about(NO_SUCH, 8));
        refused("about 9, DIMENSION 1", ANY, 9, x -> x.about(BYTES_4, 5));
        refused("about 9, DIMENSION 2", ANY, 9, x -> x.about(INTS_2_BY_3, 8));
        refused("same 7 of a", ANY, 7, x -> x.same(NO_SUCH, 0));
        refused("same 7 of b", ANY, 7, x -> x.same(0, NO_SUCH));
        refused("compare 7 of a ahead of 2", ANY, 7, x -> x.compare(NO_SUCH, TABLE));
        refused("compare 7 of b ahead of 2", ANY, 7, x -> x.compare(TABLE, NO_SUCH));
        refused("compare 2, unlike", ANY, 2, x -> x.compare(LONGS_4, BYTES_4));
        refused("compare 2, BOXES", ANY, 2, x -> x.compare(BOXES_3, BOXES_3));
        refused("compare 2, TABLES", ANY, 2, x -> x.compare(TABLE, TABLE));
    }

    private static void pairRefused() {
        for (int full = 0; full < 2; full++) {
            ArrayMaker x = rich(full == 1, ANY);
            for (int n = 3; n <= 30; n++) {
                check(x.pair(0, 0, 0, n) == n, "pair " + n);
            }
            check(x.pair(3, 0, 0, 99) == 0 && x.code() == 8, "pair 8");
            check(x.pair(3, 0, 0, 99) == 0 && x.code() == 8, "pair 8 again");
            check(x.gather(BYTES_4, 0) == 30 && x.code() == 0, "gather of the 30 lines");
            check(x.get(BYTES_4, 3, 0, 0) == -4, "pair 8 has put a line behind THE LIST");
        }
    }

    public static void main(String[] args) {
        shapesAndMakers();
        seen();
        turnedAndCut();
        deepAndFlat();
        rowsOfTables();
        items();
        joined();
        numbers();
        pairRefused();
        System.out.println(wrong == 0 ? "all answers are as due" : wrong + " answers are not as due");
        if (wrong != 0) {
            System.exit(1);
        }
    }
}
