/** Edges of sums: the sentences of terms 2 and 3, and of promises 18 to 24, 28 and 30 to 32, that name a boundary case. */
final class SumEdges {
    private static final int MINUS = Edges.MINUS;
    private static final int INF = Edges.INF;
    private static final int NAN = Edges.NAN;
    /** A law that is so for all that is not minus, and for nothing else. */
    private static final String NOT_MINUS = "own not minus;";
    /** Factors and addends of the small FORM by what is kept of their sum: odd, guard and rest, and BITS below and above. */
    private static final int[][] KEPT = {{13, 13, 0, 0, 0, 1, 14, 15}, {14, 15, 0, 1, 0, 1, 17, 18}, {14, 14, 0, 0, 1, 0, 16, 17},
        {13, 14, 0, 1, 1, 0, 15, 16}, {14, 14, 1, 0, 1, 1, 16, 17}, {13, 14, 1, 1, 1, 1, 15, 16}};

    private SumEdges() {
    }

    static void run() {
        refusals();
        notRounded();
        rounded();
        Checks.edge(18, "what it is exactly is ROUNDED once", SumEdges::farApart);
        Checks.edge(18, "what it is exactly is ROUNDED once.", SumEdges::cancelled);
        Checks.edge(18, "With exponent 0 it is fraction times 2 to the power of 1 - BIAS - F (NOUGHT, of either sign, or SUBNORMAL)", SumEdges::subnormals);
        asked();
        ofRegisters();
    }

    // ---- refusals ----

    private static void refusals() {
        Checks.edge(18, "SUM; NONE: others, no FORM.", () -> ofThree("sum", -1, (x, a, b, c) -> x.sum(a, b, c, 0)));
        Checks.edge(18, "SUM, MARKS (FLAGS) of three in a MODE.", () -> ofMode("sum", -1, (x, mode) -> x.sum(12, 12, 12, mode)));
        Checks.edge(19, "MARKS; NONE: others, no FORM.", () -> ofThree("marks", -1, (x, a, b, c) -> x.marks(a, b, c, 0)));
        Checks.edge(19, "SUM, MARKS (FLAGS) of three in a MODE.", () -> ofMode("marks", -1, (x, mode) -> x.marks(12, 12, 12, mode)));
        Checks.edge(20, "EXACT; false: others, no FORM.", () -> ofThree("exact", 0, (x, a, b, c) -> Edges.asLong(x.exact(a, b, c))));
        Checks.edge(21, "SPREAD; NONE: others, no FORM.", () -> ofThree("spread", -1, (x, a, b, c) -> x.spread(a, b, c)));
        Checks.edge(22, "TWICE; false: others, no FORM.", () -> ofThree("twice", 0, (x, a, b, c) -> Edges.asLong(x.twice(a, b, c))));
        Checks.edge(23, "REMAINS; NONE: others, no FORM.", SumEdges::remainsOthers);
        Checks.edge(24, "HALF; false: others, no FORM.", () -> ofThree("half", 0, (x, a, b, c) -> Edges.asLong(x.half(a, b, c))));
        Checks.edge(28, "SIDE; -2: others, no FORM, NAN is told.", () -> ofThree("side", -2, (x, a, b, c) -> x.side(a, b, c, 0)));
        Checks.edge(28, "SIDE of A, B, C in a MODE", () -> ofMode("side", -2, (x, mode) -> x.side(12, 12, 12, mode)));
        Checks.edge(28, "NAN is told", SumEdges::sideOfNan);
    }

    private interface OfThree {
        long call(FusedUnit x, int a, int b, int c);
    }

    private interface OfMode {
        long call(FusedUnit x, int mode);
    }

    /** In the FORM of 64 BITS, and in those of 16 of which the BITS of the other one are none. */
    private static void ofThree(String name, long want, OfThree of) {
        int[] factors = {14, 30, 28, 0};
        for (int bits : Edges.NO_BITS) {
            for (int other : factors) {
                Edges.refused(name + " a " + bits, want, x -> of.call(x, bits, other, other));
                Edges.refused(name + " b " + bits, want, x -> of.call(x, other, bits, other));
                Edges.refused(name + " c " + bits, want, x -> of.call(x, other, other, bits));
            }
        }
        Edges.withoutForm(name, want, x -> of.call(x, 0, 0, 0));
        Checks.due(name + " a", want, of.call(Edges.small(3), 16, 6, 6));
        Checks.due(name + " b", want, of.call(Edges.small(3), 6, 16, 6));
        Checks.due(name + " c", want, of.call(Edges.small(3), 6, 6, 16));
    }

    private static void ofMode(String name, long want, OfMode of) {
        for (int mode : Edges.NO_MODES) {
            Edges.refused(name + " mode " + mode, want, x -> of.call(x, mode));
        }
        for (int mode = 0; mode < 6; mode++) {
            Checks.due(name + " mode " + mode, true, of.call(Edges.busy(), mode) != want);
        }
    }

    private static void remainsOthers() {
        for (int bits : Edges.NO_BITS) {
            Edges.refused("remains " + bits, -1, x -> x.remains(bits, 12));
            Edges.refused("remains of " + bits, -1, x -> x.remains(12, bits));
            Edges.refused("remains of NAN", -1, x -> x.remains(30, bits));
        }
        Edges.withoutForm("remains", -1, x -> x.remains(0, 0));
    }

    private static void sideOfNan() {
        int[][] rows = {{29, 12, 12}, {12, 63, 12}, {12, 12, 30}, {INF, 0, 12}, {INF, 12, 60}, {0, 60, 0}};
        for (int[] row : rows) {
            for (int mode = 0; mode < 6; mode++) {
                int by = mode;
                Edges.refused("side", -2, x -> x.side(row[0], row[1], row[2], by));
            }
        }
    }

    // ---- what is not ROUNDED ----

    private static void notRounded() {
        Checks.edge(18, "If any is NAN: THE NAN.", SumEdges::anyNan);
        Checks.edge(18, "Else, if one of A, B is INF, the other one NOUGHT: THE NAN, FLAG 1.", SumEdges::infTimesNought);
        Checks.edge(18, "Else, if A times B, or C is INF: that INF", SumEdges::inf);
        Checks.edge(18, "if both are, of unlike signs: THE NAN, FLAG 1", SumEdges::infAgainstInf);
        Checks.edge(18, "If it is 0: NOUGHT: if A times B and C are both 0 and of one sign, of that sign; else +, in MODE 2 -.", SumEdges::noughts);
        Checks.edge(18, "In a flush FORM a SUBNORMAL that goes into a sum is NOUGHT of its sign.", SumEdges::flushed);
        Checks.edge(18, "with the greatest exponent INF (fraction 0) or NAN, if the KIND is not whole", SumEdges::wholeHasNone);
    }

    private static void anyNan() {
        int[] nans = {29, 30, 31, 61, 62, 63};
        int[] others = {0, MINUS, 1, 12, 27, INF, 60, 30};
        for (int form = 0; form < 3; form++) {
            FusedUnit x = Edges.small(form);
            for (int nan : nans) {
                for (int other : others) {
                    Edges.sums(x, new int[][] {{nan, other, other, nan % 6, NAN, 0}, {other, nan, other, nan % 6, NAN, 0}, {other, other, nan, nan % 6, NAN, 0}});
                }
                Edges.sums(x, new int[][] {{INF, 0, nan, 0, NAN, 0}});
            }
        }
        Edges.sums(Telling.made("form m plain exp 2 frac 1;"), new int[][] {{7, 0, 0, 0, 7, 0}, {15, 6, 0, 0, 7, 0}, {2, 2, 15, 0, 7, 0}});
    }

    private static void infTimesNought() {
        int[] infs = {INF, 60};
        int[] noughts = {0, MINUS};
        int[] thirds = {0, MINUS, 12, INF, 60, 27};
        for (int form = 0; form < 3; form++) {
            FusedUnit x = Edges.small(form);
            for (int inf : infs) {
                for (int nought : noughts) {
                    for (int third : thirds) {
                        Edges.sums(x, new int[][] {{inf, nought, third, 0, NAN, 1}, {nought, inf, third, 3, NAN, 1}});
                    }
                }
            }
        }
        Edges.sums(Edges.small(0), new int[][] {{INF, 1, 0, 0, INF, 0}, {33, INF, 0, 0, 60, 0}});
    }

    private static void inf() {
        for (int form = 0; form < 3; form++) {
            FusedUnit x = Edges.small(form);
            for (int mode = 0; mode < 6; mode++) {
                Edges.sums(x, new int[][] {{INF, 4, 0, mode, INF, 0}, {36, INF, 59, mode, 60, 0}, {INF, INF, 0, mode, INF, 0}, {60, 60, 59, mode, INF, 0},
                    {60, INF, 27, mode, 60, 0}, {27, 27, 60, mode, 60, 0}, {59, 27, INF, mode, INF, 0}, {0, 0, INF, mode, INF, 0}, {MINUS, 0, 60, mode, 60, 0},
                    {INF, 12, INF, mode, INF, 0}, {60, 12, 60, mode, 60, 0}});
            }
        }
    }

    private static void infAgainstInf() {
        for (int form = 0; form < 3; form++) {
            FusedUnit x = Edges.small(form);
            for (int mode = 0; mode < 6; mode++) {
                Edges.sums(x, new int[][] {{INF, 12, 60, mode, NAN, 1}, {12, 60, INF, mode, NAN, 1}, {60, INF, INF, mode, NAN, 1}, {60, 60, 60, mode, NAN, 1}});
            }
        }
    }

    private static void noughts() {
        for (int form = 0; form < 3; form++) {
            FusedUnit x = Telling.made(NOT_MINUS + Telling.SMALL);
            x.use(form);
            for (int mode = 0; mode < 6; mode++) {
                int else0 = mode == 2 ? MINUS : 0;
                Edges.sums(x, new int[][] {{0, 0, 0, mode, 0, 0}, {MINUS, MINUS, 0, mode, 0, 0}, {0, MINUS, MINUS, mode, MINUS, 0}, {27, MINUS, MINUS, mode, MINUS, 0},
                    {0, 0, MINUS, mode, else0, 0}, {0, MINUS, 0, mode, else0, 0}, {12, 12, 44, mode, else0, 0}, {44, 12, 12, mode, else0, 0},
                    {4, 12, 36, mode, else0, 0}, {27, 12, 59, mode, else0, 0}, {59, 44, 59, mode, else0, 0}});
            }
        }
        Edges.sums(Edges.small(0), new int[][] {{1, 12, 33, 0, 0, 0}, {33, 12, 1, 2, MINUS, 0}});
    }

    private static void flushed() {
        FusedUnit x = Edges.small(1);
        for (int bits = 1; bits < 4; bits++) {
            Edges.sums(x, new int[][] {{bits, 27, 12, 0, 12, 0}, {27, bits, 12, 0, 12, 0}, {12, 12, bits, 3, 12, 0}, {12, 12, bits | MINUS, 1, 12, 0},
                {bits, INF, 12, 0, NAN, 1}, {INF, bits | MINUS, INF, 0, NAN, 1}, {bits, 12, 0, 3, 0, 0}, {bits | MINUS, 12, MINUS, 0, MINUS, 0},
                {bits, 12, bits | MINUS, 0, 0, 0}, {bits, 12, bits | MINUS, 2, MINUS, 0}, {0, 0, bits, 3, 0, 0}, {MINUS, 12, bits | MINUS, 0, MINUS, 0},
                {bits | MINUS, bits, bits | MINUS, 3, MINUS, 0}, {bits, bits, INF, 0, INF, 0}});
        }
        Edges.sums(x, new int[][] {{4, 12, 0, 0, 4, 0}, {4, INF, 0, 0, INF, 0}, {0, 0, 36, 0, 36, 0}});
        Edges.sums(Edges.small(2), new int[][] {{3, 12, 0, 0, 3, 0}, {3, INF, 0, 0, INF, 0}});
    }

    private static void wholeHasNone() {
        FusedUnit x = Telling.made("form w whole exp 3 frac 2;");
        for (int mode = 0; mode < 6; mode++) {
            Edges.sums(x, new int[][] {{28, 12, 0, mode, 28, 0}, {31, 12, 0, mode, 31, 0}, {63, 12, 0, mode, 63, 0}, {31, 0, 30, mode, 30, 0},
                {31, 31, 0, mode, 31, 10}, {63, 31, 0, mode, 63, 10}, {31, 12, 63, mode, mode == 2 ? 32 : 0, 0}, {28, 12, 28, mode, 31, 10}});
        }
    }

    // ---- ROUNDED ----

    private static void rounded() {
        Checks.edge(18, "What is kept is one more (in its last BIT) in MODE 0 if guard, and rest or odd, are 1", () -> byMode(0));
        Checks.edge(18, "in 1 never", () -> byMode(1));
        Checks.edge(18, "in 2 if it is minus, and INEXACT", () -> byMode(2));
        Checks.edge(18, "in 3 if it is not minus, and INEXACT", () -> byMode(3));
        Checks.edge(18, "in 4 if guard is 1", () -> byMode(4));
        Checks.edge(18, "in 5 if it is INEXACT, and the E of own is not 0", SumEdges::byOwn);
        Checks.edge(18, "The BITS that are kept: the highest F + 1 of it, but none below 2 to the power of 1 - BIAS - F", SumEdges::least);
        Checks.edge(19, "let it be TINY if it is nearer to 0 than the least NORMAL", SumEdges::tiny);
        Checks.edge(19, "Else FLAG 8 if it is INEXACT, 4, too, if it is TINY then", SumEdges::tinyFlags);
        Checks.edge(18, "but in a flush FORM what is TINY is NOUGHT of its sign, FLAGS 4 and 8", SumEdges::tinyFlush);
        Checks.edge(18, "If it is more than GREATEST then: FLAGS 2 and 8", SumEdges::moreThanGreatest);
        Checks.edge(18, "INF in MODE 0, 4, in 2 if it is minus, in 3 if it is not", SumEdges::infByMode);
        Checks.edge(18, "in 5 if the E of own is not 0 for odd, guard, rest 1; else GREATEST", SumEdges::infByOwn);
        Checks.edge(18, "of a sat or whole FORM GREATEST in any case; of its sign", SumEdges::saturated);
    }

    private static boolean goesUp(int mode, boolean minus, int[] row) {
        boolean odd = row[3] == 1;
        boolean guard = row[4] == 1;
        boolean rest = row[5] == 1;
        return mode == 0 && guard && (rest || odd) || mode == 2 && minus || mode == 3 && !minus || mode == 4 && guard;
    }

    private static void byMode(int mode) {
        for (int form = 0; form < 3; form++) {
            FusedUnit x = Edges.small(form);
            for (int[] row : KEPT) {
                if (form == 1 && row[2] != 0) {
                    continue;
                }
                int due = goesUp(mode, false, row) ? row[7] : row[6];
                int dueMinus = goesUp(mode, true, row) ? row[7] : row[6];
                Edges.sums(x, new int[][] {{row[0], row[1], row[2], mode, due, 8}, {row[0] | MINUS, row[1], row[2] | MINUS, mode, dueMinus | MINUS, 8}});
            }
            Edges.sums(x, new int[][] {{12, 12, 0, mode, 12, 0}, {15, 12, 0, mode, 15, 0}, {27, 44, 0, mode, 59, 0}, {4, 12, 0, mode, 4, 0}});
        }
    }

    /** For each of its facts, and for their negations, a law that is one of them. */
    private static void byOwn() {
        String[] facts = {"odd", "guard", "rest"};
        for (int fact = 0; fact < 3; fact++) {
            FusedUnit x = Telling.made("own " + facts[fact] + ";" + Telling.SMALL);
            FusedUnit y = Telling.made("own not " + facts[fact] + ";" + Telling.SMALL);
            for (int[] row : KEPT) {
                Edges.sums(x, new int[][] {{row[0], row[1], row[2], 5, row[3 + fact] == 1 ? row[7] : row[6], 8}});
                Edges.sums(y, new int[][] {{row[0], row[1], row[2], 5, row[3 + fact] == 1 ? row[6] : row[7], 8}});
            }
        }
        FusedUnit plus = Telling.made(NOT_MINUS + Telling.SMALL);
        FusedUnit any = Telling.made("own 1;" + Telling.SMALL);
        FusedUnit none = Telling.made("own 0;" + Telling.SMALL);
        for (int[] row : KEPT) {
            int minusA = row[0] | MINUS;
            int minusC = row[2] | MINUS;
            Edges.sums(plus, new int[][] {{row[0], row[1], row[2], 5, row[7], 8}, {minusA, row[1], minusC, 5, row[6] | MINUS, 8}});
            Edges.sums(any, new int[][] {{row[0], row[1], row[2], 5, row[7], 8}, {minusA, row[1], minusC, 5, row[7] | MINUS, 8}});
            Edges.sums(none, new int[][] {{row[0], row[1], row[2], 5, row[6], 8}, {minusA, row[1], minusC, 5, row[6] | MINUS, 8}});
        }
        Edges.sums(any, new int[][] {{12, 12, 0, 5, 12, 0}, {13, 44, 0, 5, 45, 0}, {1, 12, 0, 5, 1, 0}, {12, 12, 44, 5, 0, 0}});
    }

    private static void least() {
        FusedUnit x = Edges.small();
        Edges.sums(x, new int[][] {{4, 4, 0, 0, 1, 0}, {8, 1, 0, 0, 0, 12}, {8, 1, 0, 4, 1, 12}, {9, 1, 0, 0, 1, 12}, {7, 1, 0, 0, 0, 12}, {7, 1, 0, 4, 0, 12},
            {7, 1, 0, 3, 1, 12}, {8, 3, 0, 0, 2, 12}, {8, 3, 0, 1, 1, 12}, {8, 5, 0, 0, 2, 12}, {8, 5, 0, 4, 3, 12}, {1, 1, 0, 0, 0, 12}, {1, 1, 0, 3, 1, 12},
            {1, 33, 0, 2, 33, 12}, {1, 33, 0, 3, MINUS, 12}, {8, 8, 0, 0, 4, 0}, {8, 9, 0, 0, 5, 0}, {8, 10, 0, 0, 6, 0}, {1, 12, 0, 0, 1, 0}});
        Oracle large = new Oracle(0, 8, 18);
        FusedUnit y = Telling.made(large, 0, "");
        for (int mode = 0; mode < 6; mode++) {
            for (int shift = 0; shift < 24; shift++) {
                int small = large.bias - shift << 18 | 1;
                int[] cs = {0, 1, large.signBit | 1, large.signBit | 3};
                for (int c : cs) {
                    Edges.sums(y, new int[][] {{small, 1 << 17 | 1, c, mode, large.sum(small, 1 << 17 | 1, c, mode), large.flags}});
                }
            }
            y = Telling.made(large, 0, "");
        }
    }

    private static void tiny() {
        FusedUnit x = Edges.small();
        Edges.sums(x, new int[][] {{8, 7, 0, 0, 4, 12}, {8, 7, 0, 3, 4, 12}, {8, 7, 0, 1, 3, 12}, {9, 7, 0, 0, 4, 8}, {9, 7, 0, 1, 4, 8}, {8, 8, 0, 0, 4, 0},
            {33, 1, 4, 0, 4, 12}, {33, 1, 4, 3, 4, 12}, {33, 1, 4, 1, 3, 12}, {1, 1, 4, 0, 4, 8}, {1, 1, 4, 3, 5, 8}, {1, 1, 36, 0, 36, 12},
            {1, 1, 36, 2, 36, 12}, {1, 1, 36, 3, 35, 12}, {1, 33, 36, 1, 36, 8}, {1, 33, 36, 2, 37, 8}});
        FusedUnit least = Telling.made("form m plain exp 2 frac 1;");
        Edges.sums(least, new int[][] {{1, 3, 0, 0, 2, 12}, {1, 3, 0, 1, 1, 12}, {2, 2, 0, 0, 2, 0}, {1, 1, 0, 0, 0, 12}, {1, 1, 0, 4, 1, 12}, {3, 3, 0, 0, 4, 8}});
    }

    private static void tinyFlags() {
        FusedUnit x = Edges.small();
        for (int mode = 0; mode < 6; mode++) {
            Edges.sums(x, new int[][] {{1, 12, 0, mode, 1, 0}, {4, 4, 0, mode, 1, 0}, {1, 12, 2, mode, 3, 0}, {3, 12, 0, mode, 3, 0}, {33, 12, 4, mode, 3, 0}});
            Checks.due("TINY and INEXACT", 12, x.marks(8, 3, 0, mode));
            Checks.due("INEXACT alone", 8, x.marks(13, 13, 0, mode));
            Checks.due("far below", 12, x.marks(1, 1, 0, mode));
        }
    }

    private static void tinyFlush() {
        FusedUnit x = Telling.made("own 1;" + Telling.SMALL);
        x.use(1);
        for (int mode = 0; mode < 6; mode++) {
            Edges.sums(x, new int[][] {{4, 4, 0, mode, 0, 12}, {4, 36, 0, mode, MINUS, 12}, {8, 7, 0, mode, 0, 12}, {40, 7, 0, mode, MINUS, 12},
                {37, 12, 4, mode, MINUS, 12}, {5, 12, 36, mode, 0, 12}, {4, 12, 0, mode, 4, 0}, {8, 8, 0, mode, 4, 0}, {8, 40, 0, mode, 36, 0}});
        }
        Edges.sums(x, new int[][] {{9, 7, 0, 0, 4, 8}, {9, 7, 0, 3, 5, 8}});
    }

    /** GREATEST is 14; 15 is the half to 16. */
    private static void moreThanGreatest() {
        int[] half = {INF, 27, 27, INF, INF, 27};
        int[] below = {27, 27, 27, INF, 27, 27};
        int[] above = {INF, 27, 27, INF, INF, 27};
        for (int form = 0; form < 2; form++) {
            FusedUnit x = Edges.small(form);
            for (int mode = 0; mode < 6; mode++) {
                int flagsOfHalf = half[mode] == INF ? 10 : 8;
                int flagsBelow = below[mode] == INF ? 10 : 8;
                Edges.sums(x, new int[][] {{27, 12, 12, mode, half[mode], flagsOfHalf}, {27, 12, 11, mode, below[mode], flagsBelow},
                    {27, 12, 13, mode, above[mode], flagsOfHalf}, {27, 12, 15, mode, above[mode], flagsOfHalf}, {27, 12, 4, mode, below[mode], flagsBelow}});
                int at16 = mode == 0 || mode == 3 || mode == 4 ? INF : 27;
                Edges.sums(x, new int[][] {{27, 12, 16, mode, at16, 10}, {24, 16, 0, mode, at16, 10}, {27, 27, 27, mode, at16, 10},
                    {27, 12, 0, mode, 27, 0}, {26, 12, 16, mode, 27, 0}, {25, 12, 16, mode, 26, 0}});
            }
        }
    }

    private static void infByMode() {
        int[] due = {INF, 27, 27, INF, INF, 27};
        int[] dueMinus = {60, 59, 60, 59, 60, 59};
        int[][] forms = {{2, 1}, {8, 18}};
        for (int mode = 0; mode < 6; mode++) {
            Edges.sums(Edges.small(), new int[][] {{27, 27, 0, mode, due[mode], 10}, {59, 27, 0, mode, dueMinus[mode], 10}, {59, 12, 59, mode, dueMinus[mode], 10}});
            for (int[] form : forms) {
                for (int kind = 0; kind < 2; kind++) {
                    Oracle oracle = new Oracle(kind, form[0], form[1]);
                    int g = oracle.greatest;
                    int most = due[mode] == INF ? oracle.inf : g;
                    int mostMinus = oracle.signBit + (dueMinus[mode] == 60 ? oracle.inf : g);
                    Edges.sums(Telling.made(oracle, 0, ""), new int[][] {{g, g, g, mode, most, 10}, {g, g + oracle.signBit, 0, mode, mostMinus, 10}});
                }
            }
        }
    }

    private static void infByOwn() {
        String[] laws = {"odd", "guard", "rest", "odd and guard and rest", "minus", "not minus", "not odd", "not guard", "not rest", "1", "0",
            "odd + guard + rest = 3", "not (guard and rest)"};
        boolean[] plus = {true, true, true, true, false, true, false, false, false, true, false, true, false};
        boolean[] minus = {true, true, true, true, true, false, false, false, false, true, false, true, false};
        for (int i = 0; i < laws.length; i++) {
            FusedUnit x = Telling.made("own " + laws[i] + ";" + Telling.SMALL);
            Edges.sums(x, new int[][] {{27, 27, 0, 5, plus[i] ? INF : 27, 10}, {59, 27, 0, 5, minus[i] ? 60 : 59, 10}, {24, 16, 0, 5, plus[i] ? INF : 27, 10},
                {24, 48, 0, 5, minus[i] ? 60 : 59, 10}});
        }
        FusedUnit y = Telling.made("own odd and not rest;" + Telling.SMALL);
        Edges.sums(y, new int[][] {{27, 12, 12, 5, 27, 10}});
    }

    private static void saturated() {
        FusedUnit x = Telling.made("own 1;" + Telling.SMALL);
        for (int mode = 0; mode < 6; mode++) {
            x.use(2);
            Edges.sums(x, new int[][] {{27, 27, 0, mode, 27, 10}, {59, 27, 0, mode, 59, 10}, {24, 16, 0, mode, 27, 10}, {24, 48, 0, mode, 59, 10}});
            x.use(3);
            Edges.sums(x, new int[][] {{7, 7, 0, mode, 7, 10}, {15, 7, 0, mode, 15, 10}, {7, 2, 6, mode, 7, 10}, {15, 2, 14, mode, 15, 10}});
        }
        x.use(2);
        Edges.sums(x, new int[][] {{27, 12, 12, 0, 27, 10}, {27, 12, 12, 1, 27, 8}, {59, 12, 44, 4, 59, 10}, {27, 12, 11, 0, 27, 8}, {27, 12, 11, 3, 27, 10}});
        for (int kind = 2; kind < 4; kind++) {
            Oracle oracle = new Oracle(kind, 8, 18);
            int g = oracle.greatest;
            Edges.sums(Telling.made(oracle, 0, "1"), new int[][] {{g, g, g, 0, g, 10}, {g, g + oracle.signBit, 0, 5, g + oracle.signBit, 10}});
        }
    }

    /** Each distance of product and addend, from far above to far below. */
    private static void farApart() {
        Oracle[] forms = {new Oracle(0, 8, 18), new Oracle(1, 8, 18), new Oracle(2, 8, 1), new Oracle(3, 8, 18)};
        for (Oracle form : forms) {
            int top = form.greatest >> form.f;
            int sign = form.signBit;
            for (int mode = 0; mode < 6; mode++) {
                for (int exponent = 0; exponent <= top; exponent++) {
                    FusedUnit x = Telling.made(form, 0, "");
                    int c = exponent << form.f | (1 << form.f) - 1;
                    int a = form.one() + (exponent % 2 == 0 ? 1 : 0);
                    int other = (exponent * 7 % top) << form.f | 1;
                    int[][] rows = {{a, a, c}, {a, a | sign, c}, {c, c | sign, a}, {1, 1, c}, {1, 1 | sign, c}, {form.greatest, form.greatest, c | sign},
                        {other, c, a | sign}, {c, other, 1}};
                    for (int[] row : rows) {
                        int due = form.sum(row[0], row[1], row[2], mode);
                        Edges.sums(x, new int[][] {{row[0], row[1], row[2], mode, due, form.flags}});
                    }
                }
            }
        }
    }

    private static void cancelled() {
        FusedUnit x = Telling.made("form m plain exp 8 frac 18;");
        int one = 127 << 18;
        int sign = 1 << 26;
        for (int mode = 0; mode < 6; mode++) {
            Edges.sums(x, new int[][] {{one + 1, one + 1, sign | one + 2, mode, 127 - 36 << 18, 0}, {one - 1, one - 1, sign | one - 2, mode, 127 - 38 << 18, 0},
                {one + 1, one - 2, sign | one, mode, sign | 127 - 36 << 18, 0}, {sign | one + 3, one + 3, one + 6, mode, sign | (127 - 33 << 18) + (1 << 15), 0}});
        }
    }

    /** The SUBNORMALS stand as close as the least NORMALS, and there is no gap between them. */
    private static void subnormals() {
        int[][] sizes = {{2, 1}, {8, 1}, {2, 18}, {8, 18}, {3, 2}};
        for (int[] size : sizes) {
            for (int kind = 0; kind < 4; kind++) {
                if (kind == 1) {
                    continue;
                }
                Oracle form = new Oracle(kind, size[0], size[1]);
                FusedUnit x = Telling.made(form, 0, "");
                int one = form.one();
                int least = 1 << form.f;
                int sign = form.signBit;
                for (int mode = 0; mode < 6; mode++) {
                    Edges.sums(x, new int[][] {{one, least - 1, 1, mode, least, 0}, {one, least, 1, mode, least + 1, 0}, {one, least, sign | 1, mode, least - 1, 0},
                        {one, sign | least, 1, mode, sign | least - 1, 0}, {one, 1, 0, mode, 1, 0}, {one, 1, sign | 1, mode, mode == 2 ? sign : 0, 0},
                        {one, least - 1, least - 1, mode, 2 * (least - 1), 0}, {one, least + 1, sign | least, mode, 1, 0}});
                }
            }
        }
    }

    // ---- what is asked of SUMS ----

    private static void asked() {
        Checks.edge(20, "EXACT: whether it raises no FLAG 8.", SumEdges::exact);
        Checks.edge(21, "SPREAD: how many different BITS the MODES 0 to 4 tell.", SumEdges::spread);
        Checks.edge(22, "TWICE: whether the SUM of 1, the SUM of A, B, +NOUGHT, and C has other BITS than that of A, B, C.", SumEdges::twice);
        Checks.edge(23, "REMAINS of two: the SUM of A, B, and, with the other sign (NAN itself), the SUM of A, B, +NOUGHT.", SumEdges::remains);
        Checks.edge(24, "HALF: whether the SUM is ROUNDED, and its guard is 1, its rest 0.", SumEdges::half);
        Checks.edge(28, "-1 what is told is less than what the SUM is exactly, 0 as much (also where it is not ROUNDED), 1 more", SumEdges::side);
    }

    private static void exact() {
        FusedUnit x = Edges.small();
        for (int mode = 0; mode < 6; mode++) {
            x.mode(mode);
            Checks.due("FLAG 1 alone", true, x.exact(INF, 0, 0));
            Checks.due("NAN", true, x.exact(29, 0, 0));
            Checks.due("INF", true, x.exact(INF, 12, 0));
            Checks.due("NOUGHT", true, x.exact(12, 12, 44));
            Checks.due("GREATEST", true, x.exact(27, 12, 0));
            Checks.due("a power of 2 beyond", false, x.exact(24, 16, 0));
            Checks.due("the least SUBNORMAL", true, x.exact(4, 4, 0));
            Checks.due("half of it", false, x.exact(8, 1, 0));
        }
        x.use(1);
        Checks.due("flush", false, x.exact(4, 4, 0));
        Checks.due("a SUBNORMAL is NOUGHT", true, x.exact(3, 12, 12));
        x.use(2);
        Checks.due("sat", false, x.exact(24, 16, 0));
    }

    private static void spread() {
        FusedUnit x = Telling.made("own 1;" + Telling.SMALL);
        for (int mode = 0; mode < 6; mode++) {
            x.mode(mode);
            Checks.due("exact", 1, x.spread(12, 12, 12));
            Checks.due("INEXACT", 2, x.spread(13, 13, 0));
            Checks.due("NOUGHTS of either sign", 2, x.spread(12, 12, 44));
            Checks.due("NOUGHT of one sign", 1, x.spread(0, 0, 0));
            Checks.due("beyond", 2, x.spread(27, 27, 0));
            Checks.due("NAN", 1, x.spread(INF, 0, 0));
            Checks.due("half of the least", 2, x.spread(8, 1, 0));
        }
        x.use(1);
        Checks.due("flush: TINY", 1, x.spread(8, 7, 0));
        x.use(2);
        Checks.due("sat: beyond", 1, x.spread(27, 27, 0));
    }

    private static void twice() {
        FusedUnit x = Edges.small();
        Checks.due("1.5625 is rounded ahead", true, x.twice(13, 13, 46));
        Checks.due("beyond and back", true, x.twice(27, 16, 59));
        Checks.due("NAN both times", false, x.twice(29, 12, 0));
        Checks.due("INF both times", false, x.twice(27, 27, 27));
        Checks.due("INF against -INF", true, x.twice(27, 27, 60));
        Checks.due("exact", false, x.twice(14, 12, 1));
        Checks.due("-NOUGHT and +NOUGHT", false, x.twice(MINUS, 12, 0));
        Checks.due("the product of -NOUGHT becomes +, and C is -", true, x.twice(MINUS, 12, MINUS));
        x.mode(2);
        Checks.due("in MODE 2 it stays -", false, x.twice(MINUS, 12, MINUS));
        Checks.due("rounded down ahead, to -NOUGHT", true, x.twice(40, 1, 1));
    }

    private static void remains() {
        FusedUnit x = Edges.small();
        int[][] rows = {{12, 13, 0, 0}, {13, 13, 0, 1}, {13, 13, 3, 35}, {45, 13, 0, 33}, {27, 27, 0, 60}, {27, 27, 1, 27}, {59, 27, 0, INF}, {INF, 12, 0, NAN},
            {60, 12, 0, NAN}, {29, 12, 0, NAN}, {63, 12, 0, NAN}, {INF, 0, 0, NAN}, {0, 0, 0, 0}, {0, 0, 2, MINUS}, {MINUS, 12, 0, MINUS}, {12, 12, 2, MINUS},
            {1, 1, 0, 0}, {1, 1, 3, MINUS}};
        for (int[] row : rows) {
            x.mode(row[2]);
            Checks.due("remains of " + row[0] + " " + row[1] + " mode " + row[2], row[3], x.remains(row[0], row[1]));
        }
        for (int kind = 0; kind < 4; kind++) {
            Oracle form = new Oracle(kind, 3, 2);
            FusedUnit y = Telling.made(form, 0, "");
            for (int a = 0; a < 64; a += 3) {
                for (int b = 0; b < 64; b += 5) {
                    int mode = (a + b) % 6;
                    y.mode(mode);
                    int other = form.turned(form.sum(a, b, 0, mode));
                    Checks.due("remains of " + a + " " + b + " mode " + mode, form.sum(a, b, other, mode), y.remains(a, b));
                }
                y = Telling.made(form, 0, "");
            }
        }
    }

    private static void half() {
        FusedUnit x = Edges.small();
        for (int mode = 0; mode < 6; mode++) {
            x.mode(mode);
            for (int[] row : KEPT) {
                Checks.due("half of " + row[0] + " " + row[1] + " " + row[2], row[4] == 1 && row[5] == 0, x.half(row[0], row[1], row[2]));
            }
            Checks.due("exact", false, x.half(12, 12, 0));
            Checks.due("NAN behind a half", false, x.half(29, 12, 0));
            Checks.due("INF", false, x.half(INF, 12, 0));
            Checks.due("half of the least SUBNORMAL", true, x.half(8, 1, 0));
            Checks.due("NOUGHT behind a half", false, x.half(12, 12, 44));
            Checks.due("a bit less", false, x.half(7, 1, 0));
            Checks.due("GREATEST and a half", true, x.half(27, 12, 12));
            Checks.due("far beyond, exact but for its size", false, x.half(24, 16, 0));
            Checks.due("both NOUGHT", false, x.half(0, 0, 0));
        }
        x.use(1);
        Checks.due("flush, TINY", true, x.half(6, 4, 0));
        Checks.due("flush, a SUBNORMAL is NOUGHT", false, x.half(8, 1, 0));
    }

    private static void side() {
        FusedUnit x = Edges.small();
        for (int mode = 0; mode < 6; mode++) {
            for (int[] row : KEPT) {
                int due = goesUp(mode, false, row) ? 1 : -1;
                int dueMinus = goesUp(mode, true, row) ? -1 : 1;
                Checks.due("side of " + row[0] + " " + row[1] + " mode " + mode, due, x.side(row[0], row[1], row[2], mode));
                Checks.due("side of minus " + row[0] + " " + row[1] + " mode " + mode, dueMinus, x.side(row[0] | MINUS, row[1], row[2] | MINUS, mode));
            }
            Checks.due("exact", 0, x.side(12, 12, 12, mode));
            Checks.due("NOUGHT", 0, x.side(12, 12, 44, mode));
            Checks.due("INF is not ROUNDED", 0, x.side(INF, 12, 59, mode));
            Checks.due("-INF is not ROUNDED", 0, x.side(12, 12, 60, mode));
            boolean isInf = mode == 0 || mode == 3 || mode == 4;
            Checks.due("beyond", isInf ? 1 : -1, x.side(27, 27, 0, mode));
            boolean isMinusInf = mode == 0 || mode == 2 || mode == 4;
            Checks.due("beyond with -", isMinusInf ? -1 : 1, x.side(59, 27, 0, mode));
        }
        FusedUnit flush = Edges.small(1);
        FusedUnit sat = Edges.small(2);
        for (int mode = 0; mode < 6; mode++) {
            Checks.due("flush, TINY", -1, flush.side(8, 7, 0, mode));
            Checks.due("flush, TINY with -", 1, flush.side(40, 7, 0, mode));
            Checks.due("flush, exactly a SUBNORMAL", -1, flush.side(4, 4, 0, mode));
            Checks.due("flush, a SUBNORMAL goes in as NOUGHT", 0, flush.side(3, 12, 12, mode));
            Checks.due("sat", -1, sat.side(27, 27, 0, mode));
            Checks.due("sat with -", 1, sat.side(59, 27, 0, mode));
        }
    }

    // ---- POLY, TOTAL, SETTLES ----

    private static void ofRegisters() {
        Checks.edge(30, "POLY, what 0: BITS, 1: FLAGS; NONE: others, no FORM, no REGISTERS.", SumEdges::polyOthers);
        Checks.edge(30, "POLY of BITS x: the last REGISTER; then, for each REGISTER ahead, from the last but one to the first", SumEdges::polyOfOne);
        Checks.edge(31, "TOTAL; NONE: no FORM.", SumEdges::totalOthers);
        Checks.edge(31, "TOTAL: +NOUGHT; then, for each REGISTER, the SUM of 1, that REGISTER, and it.", SumEdges::totalOfNone);
        Checks.edge(32, "SETTLES; NONE: others, no FORM, not by 60.", SumEdges::settlesOthers);
        Checks.edge(32, "how many FMAS of these (0 to 60), one behind another, change the BITS of the first one, till one does not", SumEdges::settles60);
    }

    private static void polyOthers() {
        for (int bits : Edges.NO_BITS) {
            Edges.refused("poly " + bits, -1, x -> x.poly(bits, 0));
            Edges.refused("poly " + bits, -1, x -> x.poly(bits, 1));
        }
        int[] whats = {-1, 2, 3, Edges.MIN, Edges.MAX};
        for (int what : whats) {
            Edges.refused("what " + what, -1, x -> x.poly(12, what));
        }
        Edges.withoutForm("poly", -1, x -> x.poly(0, 0));
        FusedUnit none = Telling.made("form m plain exp 3 frac 2;");
        Checks.due("no registers", -1, none.poly(12, 0));
        Checks.due("no registers", -1, none.poly(12, 1));
    }

    private static void polyOfOne() {
        int[] bits = {0, 32, 1, 3, 27, 28, 29, 63};
        for (int form = 0; form < 3; form++) {
            FusedUnit x = Telling.made("form a plain exp 3 frac 2;form b flush exp 3 frac 2;form c sat exp 3 frac 2;reg p;");
            x.use(form);
            for (int b : bits) {
                x.set(0, b);
                Checks.due("the one that there is", b, x.poly(INF, 0));
                Checks.due("no SUM, no flags", 0, x.poly(29, 1));
            }
        }
        FusedUnit two = Telling.made("form a plain exp 3 frac 2;reg p;reg q;");
        two.set(0, 12);
        two.set(1, 16);
        Checks.due("2 * 3 + 1", 23, two.poly(18, 0));
        Checks.due("exact", 0, two.poly(18, 1));
        two.set(1, INF);
        Checks.due("INF times NOUGHT", NAN, two.poly(0, 0));
        Checks.due("FLAG 1", 1, two.poly(0, 1));
        FusedUnit six = Telling.made("form m plain exp 8 frac 18;reg a;reg b;reg c;reg d;reg e;reg f;");
        for (int i = 0; i < 6; i++) {
            six.set(i, six.of(6 - i));
        }
        Checks.due("1 2 3 4 5 6 of 10", six.of(123456), six.poly(six.of(10), 0));
        Checks.due("exact", 0, six.poly(six.of(10), 1));
    }

    private static void totalOthers() {
        Edges.withoutForm("total", -1, FusedUnit::total);
        Edges.refused("1.25 - 1.5 + 3 up", 18, FusedUnit::total);
    }

    private static void totalOfNone() {
        FusedUnit none = Telling.made("form m plain exp 3 frac 2;");
        for (int mode = 0; mode < 6; mode++) {
            none.mode(mode);
            Checks.due("no registers", 0, none.total());
        }
        FusedUnit one = Telling.made("form m plain exp 3 frac 2; form n flush exp 3 frac 2;reg p;");
        int[][] rows = {{0, 0}, {32, 0}, {1, 1}, {59, 59}, {28, 28}, {60, 60}, {29, 30}};
        for (int[] row : rows) {
            one.set(0, row[0]);
            Checks.due("of " + row[0], row[1], one.total());
        }
        one.use(1);
        one.set(0, 3);
        Checks.due("a SUBNORMAL is NOUGHT", 0, one.total());
        FusedUnit x = Edges.small();
        x.set(0, 27);
        x.set(1, 27);
        x.set(2, 60);
        Checks.due("beyond, and against INF", NAN, x.total());
        x.set(0, 60);
        x.set(1, 27);
        x.set(2, 27);
        Checks.due("from the first to the last", 60, x.total());
    }

    private static void settlesOthers() {
        for (int other : Edges.NO_REGISTERS) {
            Edges.refused("into " + other, -1, x -> x.settles(other, 0, 0, 0));
            Edges.refused("a " + other, -1, x -> x.settles(0, other, 0, 0));
            Edges.refused("b " + other, -1, x -> x.settles(0, 0, other, 0));
            Edges.refused("c " + other, -1, x -> x.settles(0, 0, 0, other));
        }
        Edges.withoutForm("settles", -1, x -> x.settles(0, 0, 0, 0));
        FusedUnit x = Edges.small();
        x.set(0, 12);
        x.set(1, 44);
        Checks.due("1 and -1 in turn", -1, x.settles(0, 0, 1, 2));
        Edges.stays(x, "1 and -1 in turn", -1, y -> y.settles(0, 0, 1, 2));
    }

    /** 1 is added till it is lost: with 5 BITS of fraction at 64, from where 1 is the half. */
    private static void settles60() {
        for (int from = 0; from <= 64; from++) {
            FusedUnit x = Telling.made("form m plain exp 5 frac 5; reg p; reg q; reg r;");
            x.set(0, x.of(from));
            x.set(1, x.of(1));
            x.set(2, x.of(1));
            int due = 64 - from <= 60 ? 64 - from : -1;
            Checks.due("from " + from, due, x.settles(0, 0, 1, 2));
            Checks.due("register stays", x.of(from), x.reg(0));
            Checks.due("no flags", 0, x.count(4));
            Checks.due("nothing asked", 0, x.asked());
        }
        FusedUnit x = Edges.small();
        Checks.due("nothing changes", 0, x.settles(0, 0, 0, 0));
        x.set(0, 32);
        Checks.due("-NOUGHT becomes +NOUGHT, by its BITS", 1, x.settles(0, 1, 1, 1));
        x.set(0, 29);
        Checks.due("a NAN becomes THE NAN", 1, x.settles(0, 0, 0, 0));
        x.set(0, 30);
        Checks.due("THE NAN stays", 0, x.settles(0, 0, 0, 0));
    }
}
