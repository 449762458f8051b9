import java.util.Arrays;
import java.util.NoSuchElementException;

/** What the tests of edges have in common: objects with something of everything, and calls that are refused. */
final class Edges {
    /** A call on an object. */
    interface On {
        long call(FusedUnit x);
    }

    static final int MIN = Integer.MIN_VALUE;
    static final int MAX = Integer.MAX_VALUE;
    static final int MINUS = 32;
    static final int INF = 28;
    static final int NAN = 30;
    static final int GREATEST = 27;

    /** No BITS of a FORM of 64, by one or by far, or so that the lowest ones are BITS. */
    static final int[] NO_BITS = {-1, 64, 76, 12 - 64, 128 + 12, MIN, MIN + 12, MAX};
    /** None of three REGISTERS. */
    static final int[] NO_REGISTERS = {-1, 3, 4, 8, MIN, MAX};
    static final int[] NO_MODES = {-1, 6, 8, MIN, MAX};

    private Edges() {
    }

    static FusedUnit small() {
        return Telling.made(Telling.SMALL);
    }

    /** The small FORM of this number in use: 0 plain, 1 flush, 2 sat, 3 whole. */
    static FusedUnit small(int form) {
        FusedUnit x = small();
        x.use(form);
        return x;
    }

    /** One with something of all that there is. */
    static FusedUnit busy() {
        FusedUnit x = small();
        x.set(0, 13);
        x.set(1, 46);
        x.mode(3);
        x.fma(2, 0, 0, 1);
        x.fma(2, 0, 0, 0);
        x.see(12, true);
        x.mark(1, false);
        Telling.plan(x, "mode 1; fma p q q r;");
        Telling.feed(x, "reg");
        return x;
    }

    private static long[] state(FusedUnit x) {
        long[] state = new long[20];
        for (int i = 0; i < 9; i++) {
            state[i] = x.count(i);
        }
        for (int i = 0; i < 6; i++) {
            state[9 + i] = x.reg(i);
        }
        state[15] = x.asked();
        state[16] = x.often(0);
        state[17] = x.results();
        state[18] = x.judged(1);
        state[19] = x.fit();
        return state;
    }

    /** What is refused changes nothing, and so does what is only asked. */
    static void stays(FusedUnit x, String what, long want, On on) {
        long[] before = state(x);
        Checks.due(what, want, on.call(x));
        Checks.due(what + " leaves all", true, Arrays.equals(before, state(x)));
    }

    static void refused(String what, long want, On on) {
        stays(busy(), what, want, on);
    }

    static void refused(String what, boolean want, On on) {
        stays(busy(), what, want ? 1 : 0, on);
    }

    /** Neither before a UNIT nor by one of REGISTERS alone there is a FORM. */
    static void withoutForm(String what, long want, On on) {
        stays(new FusedUnit(), what, want, on);
        stays(Telling.made("reg p; reg q; reg r;"), what, want, on);
    }

    static void throwsNone(FusedUnit x, String what, On on) {
        long[] before = state(x);
        try {
            Checks.due(what + " answered " + on.call(x) + " and throws", 1, 0);
        } catch (NoSuchElementException due) {
            Checks.due(what + " leaves all", true, Arrays.equals(before, state(x)));
        }
    }

    static long asLong(boolean is) {
        return is ? 1 : 0;
    }

    /** Rows of A, B, C, a MODE, and the SUM and its FLAGS that are due. */
    static void sums(FusedUnit x, int[][] rows) {
        for (int[] row : rows) {
            String call = row[0] + " " + row[1] + " " + row[2] + " mode " + row[3];
            Checks.due("sum " + call, row[4], x.sum(row[0], row[1], row[2], row[3]));
            Checks.due("marks " + call, row[5], x.marks(row[0], row[1], row[2], row[3]));
        }
    }
}
