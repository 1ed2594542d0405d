/** Counts the answers that are not as due, and ends a test by them. */
final class Checks {
    private final String promise;
    final ArrayMaker x;
    private static int wrong = 0;

    /** A fresh object, whose wrong answers are told under the name of a promise. */
    Checks(String promise) {
        this.promise = promise;
        this.x = new ArrayMaker();
    }

    /** An answer without a look at CODE. */
    void due(String call, long got, long want) {
        if (got != want) {
            wrong++;
            System.out.println(promise + ": " + call + " answered " + got + ", due is " + want);
        }
    }

    /** The answer of a call that has just been done with CODE 0. */
    void ok(String call, long got, long want) {
        told(call, got, want, 0);
    }

    /** A call that has just been stopped by a CODE, and answers 0. */
    void stopped(String call, long got, int code) {
        told(call, got, 0, code);
    }

    /** A call that was stopped by CODE 3 for a dimension. */
    void beyond(String call, long got, int dimension) {
        told(call, got, 0, 3);
        due(call + ", which()", x.which(), dimension);
    }

    /** An answer and the CODE behind it. */
    void told(String call, long got, long want, int code) {
        due(call, got, want);
        due(call + ", code()", x.code(), code);
    }

    /** A call that was out of its bounds: CODE is as it was ahead of it. */
    void outside(String call, long got, int codeAhead) {
        told(call, got, ArrayMaker.OUTSIDE, codeAhead);
    }

    /** Makes THE SHAPE anew: pairs of LOW and HIGH. */
    void shape(int... bounds) {
        x.shapeless();
        for (int n = 0; n + 1 < bounds.length; n += 2) {
            x.range(bounds[n], bounds[n + 1]);
        }
    }

    /** Makes an ARRAY: its KIND, and pairs of LOW and HIGH. */
    int made(int kind, int... bounds) {
        shape(bounds);
        int number = x.make(kind);
        due("make(" + kind + "), code()", x.code(), 0);
        return number;
    }

    /** Makes ARRAYS until no more are possible. */
    void fillUp() {
        for (int n = 0; n < 24; n++) {
            x.raw(0, 1);
        }
    }

    static void end() {
        System.out.println(wrong == 0 ? "all answers are as due" : wrong + " answers are not as due");
        if (wrong != 0) {
            System.exit(1);
        }
    }
}
