import java.util.Arrays;
import java.util.Random;

/** Long runs of calls, drawn from fixed seeds, with the answers that Model gives. */
public final class ModelTest {
    private static final int RUNS = 6000, CALLS = 512 / 3;
    private static final int MIN = Integer.MIN_VALUE, MAX = Integer.MAX_VALUE;
    private static final int[] EDGES = {MIN, MIN + 1, -1, 0, 1, 99, 100, 101, 499, 500, 501, MAX - 1, MAX};
    private static final long[] WIDE = {0, 0, 1, -1, 2, -3, 127, 128, 255, 256, -129, 0x7fffffffL,
            0x80000000L, 0x100000000L, Long.MIN_VALUE, Long.MAX_VALUE};

    private final Random random;
    private final boolean manyTables;
    private final ArrayMaker x = new ArrayMaker();
    private final Model model = new Model();
    private final StringBuilder calls = new StringBuilder();
    private static final long[][] codesSeen = new long[24][12];
    private int dueCode = 0;

    private ModelTest(int seed) {
        random = new Random(seed);
        manyTables = seed % 3 == 0;
    }

    private int small() {
        return random.nextInt(40) == 0 ? EDGES[random.nextInt(EDGES.length)] : random.nextInt(6) - 1;
    }

    private int number() {
        int made = model.made();
        return random.nextInt(30) == 0 || made == 0 ? random.nextInt(30) - 2 : random.nextInt(made);
    }

    /** Mostly an array of a kind, where there is one. */
    private int numberOf(int kind) {
        int number = number();
        for (int n = 0; n < 5 && model.kindOf(number) != kind; n++) {
            number = number();
        }
        return number;
    }

    /** Mostly an index that an array has, or one beside its bounds. */
    private int index(int number, int dimension) {
        int low = model.lowOf(number, dimension);
        return random.nextInt(8) == 0 ? small() : low + random.nextInt(8) / 2 - (random.nextInt(20) == 0 ? 1 : 0);
    }

    private long wide() {
        return random.nextBoolean() ? WIDE[random.nextInt(WIDE.length)] : random.nextInt(41) - 20;
    }

    private int kind(int most) {
        if (random.nextInt(60) == 0) {
            return random.nextBoolean() ? -1 : most + 1;
        }
        return manyTables && random.nextBoolean() ? most : random.nextInt(most + 1);
    }

    private int high(int low) {
        int draw = random.nextInt(60);
        if (draw == 0) {
            return EDGES[random.nextInt(EDGES.length)];
        }
        return draw < 4 ? low + random.nextInt(300) : low + random.nextInt(5) - 1;
    }

    private int length() {
        return random.nextInt(8) == 0 ? EDGES[random.nextInt(EDGES.length)] : random.nextInt(7);
    }

    /** The calls by weight: those that make the state rich come more often. */
    private int drawCall() {
        int draw = random.nextInt(100);
        if (draw < 20) {
            return 0;
        }
        if (draw < 28) {
            return 2;
        }
        if (draw < 40) {
            return 12;
        }
        return draw < 44 ? 14 : 1 + random.nextInt(22);
    }

    /** OUTSIDE where a bound is crossed, else what the model answers; dueCode is its CODE. */
    private long modelled(int call, int[] a, long v) {
        boolean outside = call == 2 && (a[0] < 0 || a[0] > 4) || call == 3 && (a[0] < 0 || a[0] > 3)
                || call == 15 && (a[1] < 0 || a[1] > 5) || call == 16 && (a[2] < 0 || a[2] > 5)
                || call == 19 && (a[1] < 0 || a[1] > 8);
        if (outside) {
            return ArrayMaker.OUTSIDE;
        }
        try {
            long answer = answerOfModel(call, a, v);
            dueCode = 0;
            return answer;
        } catch (Model.Stop stop) {
            dueCode = stop.code;
            return stop.answer;
        }
    }

    private long answerOfModel(int call, int[] a, long v) {
        return switch (call) {
            case 0 -> model.range(a[0], a[1]);
            case 1 -> model.shapeless();
            case 2 -> model.make(a[0]);
            case 3 -> model.raw(a[0], a[1]);
            case 4 -> model.see(a[0]);
            case 5 -> model.turn(a[0]);
            case 6 -> model.cut(a[0]);
            case 7 -> model.deep(a[0]);
            case 8 -> model.flat(a[0]);
            case 9 -> model.ragged(a[0], a[1], a[2]);
            case 10 -> model.without(a[0], a[1]);
            case 11 -> model.tie(a[0], a[1], a[2], a[3]);
            case 12 -> model.put(a[0], a[1], a[2], a[3], v);
            case 13 -> model.empty(a[0], a[1], a[2], a[3]);
            case 14 -> model.pair(a[0], a[1], a[2], v);
            case 15 -> model.gather(a[0], a[1]);
            case 16 -> model.join(a[0], a[1], a[2]);
            case 17 -> model.sum(a[0]);
            case 18 -> model.mean(a[0]);
            case 19 -> model.about(a[0], a[1]);
            case 20 -> model.same(a[0], a[1]);
            case 21 -> model.compare(a[0], a[1]);
            case 22 -> model.get(a[0], a[1], a[2], a[3]);
            default -> model.clear();
        };
    }

    private long answered(int call, int[] a, long v) {
        return switch (call) {
            case 0 -> x.range(a[0], a[1]);
            case 1 -> x.shapeless();
            case 2 -> x.make(a[0]);
            case 3 -> x.raw(a[0], a[1]);
            case 4 -> x.see(a[0]);
            case 5 -> x.turn(a[0]);
            case 6 -> x.cut(a[0]);
            case 7 -> x.deep(a[0]);
            case 8 -> x.flat(a[0]);
            case 9 -> x.ragged(a[0], a[1], a[2]);
            case 10 -> x.without(a[0], a[1]);
            case 11 -> x.tie(a[0], a[1], a[2], a[3]);
            case 12 -> x.put(a[0], a[1], a[2], a[3], v);
            case 13 -> x.empty(a[0], a[1], a[2], a[3]);
            case 14 -> x.pair(a[0], a[1], a[2], v);
            case 15 -> x.gather(a[0], a[1]);
            case 16 -> x.join(a[0], a[1], a[2]);
            case 17 -> x.sum(a[0]);
            case 18 -> x.mean(a[0]);
            case 19 -> x.about(a[0], a[1]);
            case 20 -> x.same(a[0], a[1]);
            case 21 -> x.compare(a[0], a[1]);
            case 22 -> x.get(a[0], a[1], a[2], a[3]);
            default -> x.clear();
        };
    }

    private int[] drawArguments(int call) {
        int low = small();
        int any = number();
        int table = numberOf(4);
        int other = numberOf(4);
        int boxes = numberOf(3);
        return switch (call) {
            case 0 -> new int[] {low, high(low), 0, 0};
            case 2 -> new int[] {kind(4), 0, 0, 0};
            case 3 -> new int[] {kind(3), length(), 0, 0};
            case 7 -> new int[] {numberOf(1), 0, 0, 0};
            case 8 -> new int[] {table, 0, 0, 0};
            case 9, 10 -> new int[] {table, index(table, 0), length(), 0};
            case 11 -> new int[] {table, index(table, 0), other, index(other, 0)};
            case 13 -> new int[] {boxes, index(boxes, 0), index(boxes, 1), index(boxes, 2)};
            case 14 -> new int[] {low, small(), small(), 0};
            case 15 -> new int[] {any, kind(5), 0, 0};
            case 16 -> new int[] {any, numberOf(model.kindOf(any)), kind(5), 0};
            case 19 -> new int[] {any, kind(8), 0, 0};
            case 20, 21 -> new int[] {any, numberOf(model.kindOf(any)), 0, 0};
            default -> new int[] {any, index(any, 0), index(any, 1), index(any, 2)};
        };
    }

    /** Whether every call was answered as the model does. */
    private boolean agrees(int seed) {
        for (int n = 0; n < CALLS; n++) {
            int call = random.nextInt(100) == 0 ? 23 : drawCall();
            int[] a = drawArguments(call);
            long v = wide();
            calls.append("  call ").append(call).append(' ').append(Arrays.toString(a))
                    .append(' ').append(v).append('\n');
            long want = modelled(call, a, v);
            long got = answered(call, a, v);
            codesSeen[call][dueCode]++;
            if (got != want || x.code() != dueCode || x.which() != model.which()) {
                System.out.println("seed " + seed + ", the calls:\n" + calls + "answered " + got + " code "
                        + x.code() + " which " + x.which() + ", due is " + want + " code " + dueCode
                        + " which " + model.which());
                return false;
            }
        }
        return true;
    }

    public static void main(String[] args) {
        for (int seed = 0; seed < RUNS; seed++) {
            if (!new ModelTest(seed).agrees(seed)) {
                System.exit(1);
            }
        }
        for (int call = 0; call < codesSeen.length; call++) {
            System.out.println("call " + call + ", how often each code was due: "
                    + Arrays.toString(codesSeen[call]));
        }
    }
}
