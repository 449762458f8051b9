import java.util.HashSet;
import java.util.Set;

/** Promises 18 to 24, 28 and 30 to 33: sums, by hand and by the oracle. */
final class SumTests {
    private static final int NAN = 30;
    private static final int INF = 28;
    private static final int MINUS = 32;

    private SumTests() {
    }

    static void run() {
        Checks.test("promise 18, 19: sums that are not rounded", SumTests::special);
        Checks.test("promise 18, 19: sums that are rounded", SumTests::rounded);
        Checks.test("promise 18, 19: noughts", SumTests::noughts);
        Checks.test("promise 18, 19: what is beyond", SumTests::beyond);
        Checks.test("promise 18, 19: what is tiny", SumTests::tiny);
        Checks.test("promise 18, 19: flush, sat and whole forms", SumTests::kinds);
        Checks.test("promise 18: refusals", SumTests::refusals);
        Checks.test("promise 18 to 24, 28: all by the oracle, small forms", () -> byOracle(NumberTests.small(), 18));
        Checks.test("promise 18 to 24, 28: all by the oracle, large forms", () -> byOracle(NumberTests.large(), 19));
        Checks.test("promise 18: far apart in the window", SumTests::farApart);
        Checks.test("promise 20: exact", SumTests::exact);
        Checks.test("promise 21: spread", SumTests::spread);
        Checks.test("promise 22: twice", SumTests::twice);
        Checks.test("promise 23: remains", SumTests::remains);
        Checks.test("promise 24: half", SumTests::half);
        Checks.test("promise 28: side", SumTests::side);
        Checks.test("promise 30: poly", SumTests::poly);
        Checks.test("promise 31: total", SumTests::total);
        Checks.test("promise 30, 31: poly and total by the oracle", SumTests::polyAny);
        Checks.test("promise 32: settles", SumTests::settles);
        Checks.test("promise 32: settles by the oracle", SumTests::settlesAny);
        Checks.test("promise 33: gap", SumTests::gap);
        Checks.test("promise 33: gap by the oracle", SumTests::gapAny);
    }

    private static FusedUnit small() {
        return Telling.made(Telling.SMALL);
    }

    private static void sums(FusedUnit x, int[][] rows) {
        for (int[] row : rows) {
            String call = row[0] + " " + row[1] + " " + row[2] + " mode " + row[3];
            Checks.due("sum " + call, row[4], x.sum(row[0], row[1], row[2], row[3]));
            Checks.due("marks " + call, row[5], x.marks(row[0], row[1], row[2], row[3]));
        }
    }

    private static void special() {
        FusedUnit x = small();
        sums(x, new int[][] {{29, 12, 12, 0, NAN, 0}, {12, 63, 12, 0, NAN, 0}, {12, 12, 31, 0, NAN, 0}, {INF, 0, 31, 0, NAN, 0},
            {29, 0, INF, 0, NAN, 0}, {INF, 0, 12, 0, NAN, 1}, {MINUS, INF, 12, 3, NAN, 1}, {0, 60, 60, 0, NAN, 1}, {INF, 12, 0, 0, INF, 0},
            {INF, 44, 0, 0, 60, 0}, {44, 60, 27, 1, INF, 0}, {60, INF, 12, 0, 60, 0}, {12, 12, 60, 3, 60, 0}, {12, 12, INF, 2, INF, 0},
            {27, 27, 60, 0, 60, 0}, {INF, 12, 60, 0, NAN, 1}, {INF, 44, INF, 0, NAN, 1}, {INF, INF, 60, 0, NAN, 1}, {INF, INF, INF, 0, INF, 0},
            {60, 12, 60, 0, 60, 0}, {INF, 1, 59, 0, INF, 0}, {0, 0, INF, 0, INF, 0}});
    }

    private static void rounded() {
        FusedUnit x = small();
        sums(x, new int[][] {{13, 13, 0, 0, 14, 8}, {13, 13, 0, 1, 14, 8}, {13, 13, 0, 2, 14, 8}, {13, 13, 0, 3, 15, 8}, {13, 13, 0, 4, 14, 8},
            {13, 13, 0, 5, 14, 8}, {45, 13, 0, 0, 46, 8}, {45, 13, 0, 1, 46, 8}, {45, 13, 0, 2, 47, 8}, {45, 13, 0, 3, 46, 8},
            {14, 14, 0, 0, 16, 8}, {14, 14, 0, 1, 16, 8}, {14, 14, 0, 4, 17, 8}, {14, 14, 32, 3, 17, 8}, {46, 14, 0, 4, 49, 8},
            {12, 12, 12, 0, 16, 0}, {12, 12, 4, 0, 13, 0}, {12, 12, 2, 0, 12, 8}, {12, 12, 2, 3, 13, 8}, {12, 12, 34, 0, 11, 0},
            {12, 12, 34, 1, 11, 0}, {12, 12, 1, 0, 12, 8}, {12, 12, 33, 0, 12, 8}, {12, 12, 33, 2, 11, 8}, {12, 12, 33, 3, 12, 8},
            {13, 12, 2, 0, 14, 8}, {13, 12, 34, 0, 12, 8}, {13, 13, 46, 0, 1, 0}, {27, 12, 59, 0, 0, 0}});
    }

    private static void noughts() {
        FusedUnit x = small();
        for (int mode = 0; mode < 6; mode++) {
            int unlike = mode == 2 ? MINUS : 0;
            sums(x, new int[][] {{0, 0, 0, mode, 0, 0}, {0, 12, 0, mode, 0, 0}, {MINUS, 12, 0, mode, unlike, 0}, {MINUS, 12, MINUS, mode, MINUS, 0},
                {MINUS, 44, 0, mode, 0, 0}, {MINUS, MINUS, MINUS, mode, unlike, 0}, {0, 0, MINUS, mode, unlike, 0}, {12, 12, 44, mode, unlike, 0},
                {12, 44, 12, mode, unlike, 0}, {0, 12, 13, mode, 13, 0}, {MINUS, 12, 45, mode, 45, 0}, {0, 44, 1, mode, 1, 0}});
        }
    }

    private static void beyond() {
        FusedUnit x = Telling.made("own minus;" + Telling.SMALL);
        int[] due = {INF, 27, 27, INF, INF, 27};
        int[] dueMinus = {60, 59, 60, 59, 60, 60};
        for (int mode = 0; mode < 6; mode++) {
            sums(x, new int[][] {{27, 27, 0, mode, due[mode], 10}, {59, 27, 0, mode, dueMinus[mode], 10}, {24, 16, 0, mode, due[mode], 10}});
        }
        sums(x, new int[][] {{27, 12, 12, 0, INF, 10}, {27, 12, 12, 1, 27, 8}, {27, 12, 12, 3, INF, 10}, {27, 12, 12, 2, 27, 8}, {27, 12, 12, 4, INF, 10},
            {27, 12, 12, 5, 27, 8}, {59, 12, 44, 5, 60, 10}, {27, 12, 8, 0, 27, 8}, {27, 12, 8, 3, INF, 10}, {27, 12, 8, 4, 27, 8}});
        FusedUnit y = Telling.made("own odd and not rest;" + Telling.SMALL);
        sums(y, new int[][] {{27, 27, 0, 5, 27, 10}, {27, 12, 12, 5, 27, 10}, {25, 12, 12, 5, 26, 8}});
    }

    private static void tiny() {
        FusedUnit x = small();
        sums(x, new int[][] {{4, 4, 0, 0, 1, 0}, {4, 1, 0, 0, 0, 12}, {4, 1, 0, 3, 1, 12}, {36, 1, 0, 0, MINUS, 12}, {36, 1, 0, 2, 33, 12},
            {8, 1, 0, 0, 0, 12}, {8, 1, 0, 4, 1, 12}, {8, 3, 0, 0, 2, 12}, {8, 7, 0, 0, 4, 12}, {8, 7, 0, 1, 3, 12}, {8, 7, 0, 3, 4, 12},
            {8, 2, 0, 0, 1, 0}, {12, 4, 33, 0, 3, 0}, {8, 8, 0, 0, 4, 0}, {1, 1, 0, 0, 0, 12}, {1, 1, 1, 0, 1, 12}, {1, 1, 3, 3, 4, 12},
            {1, 1, 4, 0, 4, 8}, {33, 1, 4, 0, 4, 12}, {33, 1, 4, 1, 3, 12}, {1, 1, 36, 0, 36, 12}, {9, 7, 0, 0, 4, 8}});
    }

    private static void kinds() {
        FusedUnit x = small();
        x.use(1);
        sums(x, new int[][] {{4, 4, 0, 0, 0, 12}, {36, 4, 0, 3, MINUS, 12}, {8, 7, 0, 3, 0, 12}, {1, 28, 0, 0, NAN, 1}, {1, 24, 3, 0, 0, 0},
            {3, 24, 12, 0, 12, 0}, {12, 12, 3, 3, 12, 0}, {33, 12, 33, 0, MINUS, 0}, {33, 12, 3, 2, MINUS, 0}, {33, 12, 3, 0, 0, 0}, {33, 12, 4, 0, 4, 0},
            {12, 4, 37, 0, MINUS, 12}, {27, 27, 0, 0, INF, 10}, {27, 27, 0, 1, 27, 10}, {8, 8, 0, 0, 4, 0}, {13, 13, 0, 3, 15, 8}, {1, 29, 0, 0, NAN, 0}});
        x.use(2);
        for (int mode = 0; mode < 6; mode++) {
            sums(x, new int[][] {{27, 27, 0, mode, 27, 10}, {59, 27, 0, mode, 59, 10}, {INF, 12, 0, mode, INF, 0}, {27, 27, 60, mode, 60, 0}});
        }
        sums(x, new int[][] {{4, 4, 0, 0, 1, 0}, {27, 12, 12, 0, 27, 10}, {27, 12, 12, 1, 27, 8}, {INF, 0, 0, 0, NAN, 1}});
        x.use(3);
        for (int mode = 0; mode < 6; mode++) {
            sums(x, new int[][] {{7, 7, 0, mode, 7, 10}, {15, 7, 0, mode, 15, 10}, {7, 2, 8, mode, 7, 0}, {7, 2, 15, mode, mode == 2 ? 8 : 0, 0}});
        }
        sums(x, new int[][] {{7, 2, 1, 0, 7, 8}, {7, 2, 3, 0, 7, 10}, {7, 2, 3, 1, 7, 8}, {1, 1, 0, 0, 0, 12}, {1, 1, 0, 3, 1, 12}, {6, 0, 0, 0, 0, 0}});
    }

    private static void refusals() {
        FusedUnit x = small();
        int[] others = {-1, 64, 76, 128 + 13, 12 - 64, Integer.MIN_VALUE, Integer.MIN_VALUE + 12, Integer.MAX_VALUE};
        for (int other : others) {
            for (int place = 0; place < 3; place++) {
                int a = place == 0 ? other : 12;
                int b = place == 1 ? other : 12;
                int c = place == 2 ? other : 12;
                String call = a + " " + b + " " + c;
                Checks.due("sum " + call, -1, x.sum(a, b, c, 0));
                Checks.due("marks " + call, -1, x.marks(a, b, c, 0));
                Checks.due("exact " + call, false, x.exact(a, b, c));
                Checks.due("spread " + call, -1, x.spread(a, b, c));
                Checks.due("twice " + call, false, x.twice(a, b, c));
                Checks.due("half " + call, false, x.half(a, b, c));
                Checks.due("side " + call, -2, x.side(a, b, c, 0));
                Checks.due("remains " + call, place == 2 ? 0 : -1, x.remains(a, b));
                Checks.refuses("gap " + call, () -> x.gap(a, b, c));
            }
        }
        int[] modes = {-1, 6, Integer.MIN_VALUE, Integer.MAX_VALUE};
        for (int mode : modes) {
            Checks.due("sum", -1, x.sum(12, 12, 12, mode));
            Checks.due("marks", -1, x.marks(12, 12, 12, mode));
            Checks.due("side", -2, x.side(12, 12, 12, mode));
        }
        Checks.due("no change", 0, x.count(7));
    }

    private static void byOracle(Oracle[] forms, int seed) {
        Draws draws = new Draws(seed);
        for (Oracle form : forms) {
            for (int mode = 0; mode < 6; mode++) {
                for (int round = 0; round < 5; round++) {
                    FusedUnit x = NumberTests.made(form);
                    x.mode(mode);
                    for (int i = 0; i < 55; i++) {
                        boolean isNear = draws.below(2) == 0;
                        int a = isNear ? draws.near(form) : draws.bits(form);
                        int b = isNear ? draws.near(form) : draws.bits(form);
                        int c = draws.below(3) != 0 ? draws.near(form) : draws.bits(form);
                        if (draws.below(8) == 0) {
                            c = form.turned(form.sum(a, b, 0, draws.below(5)));
                        }
                        compare(form, x, a, b, c, mode);
                    }
                }
            }
        }
    }

    private static void compare(Oracle form, FusedUnit x, int a, int b, int c, int mode) {
        String call = form.text("") + " " + a + " " + b + " " + c + " mode " + mode;
        int due = form.sum(a, b, c, mode);
        int flags = form.flags;
        int side = form.isNan(due) ? -2 : form.side;
        Checks.due("sum " + call, due, x.sum(a, b, c, mode));
        Checks.due("marks " + call, flags, x.marks(a, b, c, mode));
        Checks.due("side " + call, side, x.side(a, b, c, mode));
        Checks.due("half " + call, form.half(a, b, c, mode), x.half(a, b, c));
        Checks.due("exact " + call, (flags & 8) == 0, x.exact(a, b, c));
        int product = form.sum(a, b, 0, mode);
        Checks.due("twice " + call, form.sum(form.one(), product, c, mode) != due, x.twice(a, b, c));
        Checks.due("remains " + call, form.sum(a, b, form.turned(product), mode), x.remains(a, b));
        Set<Integer> told = new HashSet<>();
        for (int other = 0; other < 5; other++) {
            told.add(form.sum(a, b, c, other));
        }
        Checks.due("spread " + call, told.size(), x.spread(a, b, c));
    }

    private static void farApart() {
        Oracle form = new Oracle(0, 8, 18);
        int one = form.one();
        int sign = form.signBit;
        for (int mode = 0; mode < 6; mode++) {
            FusedUnit x = Telling.made(form, 0, "");
            for (int distance = 0; distance < 120; distance++) {
                int far = one + (distance << form.f);
                int least = distance < 60 ? one + 1 : one - (distance << form.f) + 1;
                int[][] rows = {{one, one, far}, {one, least, far | sign}, {far, one, least | sign}, {far, far, least}};
                for (int[] row : rows) {
                    Checks.due("sum " + row[0] + " " + row[1] + " " + row[2] + " mode " + mode, form.sum(row[0], row[1], row[2], mode),
                            x.sum(row[0], row[1], row[2], mode));
                }
            }
        }
    }

    private static void exact() {
        FusedUnit x = small();
        Checks.due("exact", true, x.exact(12, 12, 12));
        Checks.due("inexact", false, x.exact(13, 13, 0));
        Checks.due("beyond", false, x.exact(24, 16, 0));
        Checks.due("NAN by flag 1", true, x.exact(INF, 0, 0));
        Checks.due("NAN", true, x.exact(29, 0, 0));
        Checks.due("nought", true, x.exact(12, 12, 44));
        Checks.due("SUBNORMAL", true, x.exact(4, 4, 0));
        x.use(1);
        Checks.due("flush", false, x.exact(4, 4, 0));
    }

    private static void spread() {
        FusedUnit x = small();
        Checks.due("exact", 1, x.spread(12, 12, 12));
        Checks.due("inexact", 2, x.spread(13, 13, 0));
        Checks.due("noughts", 2, x.spread(12, 12, 44));
        Checks.due("nought", 1, x.spread(0, 0, 0));
        Checks.due("beyond", 2, x.spread(27, 27, 0));
        Checks.due("NAN", 1, x.spread(29, 0, 0));
        x.mode(5);
        Checks.due("whatever the mode", 2, x.spread(13, 13, 0));
        x.use(2);
        Checks.due("sat", 1, x.spread(27, 27, 0));
        x.use(1);
        Checks.due("flush", 1, x.spread(4, 1, 0));
    }

    private static void twice() {
        FusedUnit x = small();
        Checks.due("1.25 * 1.25 - 1.5", true, x.twice(13, 13, 46));
        Checks.due("exact", false, x.twice(12, 12, 12));
        Checks.due("no more is lost", false, x.twice(13, 13, 0));
        Checks.due("beyond and back", true, x.twice(27, 16, 59));
        Checks.due("NAN", false, x.twice(29, 12, 0));
        x.mode(1);
        Checks.due("cut once and twice", false, x.twice(13, 13, 12));
        Checks.due("by the mode", true, x.twice(14, 14, 46));
        x.use(1);
        Checks.due("flush: 0.5 * 0.3125 is lost", true, x.twice(8, 5, 4));
        Checks.due("flush: 0.5 * 0.5 is not", false, x.twice(8, 8, 4));
    }

    private static void remains() {
        FusedUnit x = small();
        Checks.due("1.5625 - 1.5", 1, x.remains(13, 13));
        Checks.due("nothing", 0, x.remains(12, 13));
        Checks.due("minus", 33, x.remains(45, 13));
        Checks.due("NAN", NAN, x.remains(61, 13));
        Checks.due("beyond", 60, x.remains(27, 27));
        Checks.due("INF", NAN, x.remains(INF, 13));
        Checks.due("INF times NOUGHT", NAN, x.remains(INF, 0));
        x.mode(3);
        Checks.due("up: 1.5625 - 1.75", 35, x.remains(13, 13));
        x.mode(2);
        Checks.due("down, nothing", MINUS, x.remains(12, 13));
    }

    private static void half() {
        FusedUnit x = small();
        Checks.due("1.5 * 1.5", true, x.half(14, 14, 0));
        Checks.due("1.25 * 1.25", false, x.half(13, 13, 0));
        Checks.due("exact", false, x.half(12, 12, 12));
        Checks.due("nought", false, x.half(12, 12, 44));
        Checks.due("SUBNORMAL", true, x.half(8, 1, 0));
        Checks.due("less than half", false, x.half(4, 1, 0));
        Checks.due("more than half", false, x.half(9, 1, 0));
        Checks.due("NAN", false, x.half(29, 1, 0));
        Checks.due("INF", false, x.half(INF, 12, 0));
        Checks.due("beyond", true, x.half(27, 12, 12));
        Checks.due("beyond, not half", false, x.half(24, 16, 0));
        x.half(14, 14, 0);
        Checks.due("NAN after a half", false, x.half(29, 1, 0));
        x.use(1);
        Checks.due("flush", true, x.half(6, 4, 0));
        Checks.due("flush, exact", false, x.half(4, 4, 0));
    }

    private static void side() {
        FusedUnit x = small();
        int[][] rows = {{13, 13, 0, 0, -1}, {13, 13, 0, 3, 1}, {45, 13, 0, 0, 1}, {45, 13, 0, 2, -1}, {12, 12, 12, 0, 0}, {12, 12, 44, 0, 0},
            {27, 27, 0, 0, 1}, {27, 27, 0, 1, -1}, {59, 27, 0, 0, -1}, {59, 27, 0, 1, 1}, {INF, 12, 0, 0, 0}, {12, 12, 60, 0, 0}, {29, 0, 0, 0, -2},
            {INF, 0, 0, 0, -2}, {4, 1, 0, 0, -1}, {36, 1, 0, 0, 1}, {4, 1, 0, 3, 1}, {4, 4, 0, 0, 0}, {14, 14, 0, 4, 1}, {14, 14, 0, 0, -1},
            {0, 0, 0, 0, 0}, {12, 12, 1, 0, -1}, {12, 12, 33, 0, 1}};
        for (int[] row : rows) {
            Checks.due("side " + row[0] + " " + row[1] + " " + row[2] + " mode " + row[3], row[4], x.side(row[0], row[1], row[2], row[3]));
        }
        x.use(1);
        Checks.due("flush", -1, x.side(4, 4, 0, 3));
        Checks.due("flush, minus", 1, x.side(36, 4, 0, 2));
        Checks.due("a SUBNORMAL is nought", 0, x.side(1, 24, 12, 0));
        x.use(2);
        Checks.due("sat", -1, x.side(27, 27, 0, 0));
    }

    private static void poly() {
        FusedUnit x = small();
        x.set(0, 12);
        x.set(1, 14);
        x.set(2, 16);
        Checks.due("2 * 2 + 1.5 is 5.5, 6 by even; 6 * 2 + 1 is 13, 12 by even", 26, x.poly(16, 0));
        Checks.due("flags", 8, x.poly(16, 1));
        Checks.due("of 1, 4.5 is a half", 20, x.poly(12, 0));
        Checks.due("of nought", 12, x.poly(0, 0));
        Checks.due("flags", 0, x.poly(0, 1));
        Checks.due("of INF", INF, x.poly(INF, 0));
        Checks.due("of NAN", NAN, x.poly(29, 0));
        Checks.due("beyond", 10, x.poly(27, 1));
        x.mode(3);
        Checks.due("by the mode", 27, x.poly(16, 0));
        int[][] others = {{64, 0}, {-1, 0}, {12, 2}, {12, -1}};
        for (int[] row : others) {
            Checks.due("poly " + row[0] + " " + row[1], -1, x.poly(row[0], row[1]));
        }
        Checks.due("no flags", 0, x.count(4));
        Checks.due("register stays", 16, x.reg(2));
        FusedUnit one = Telling.made("form m plain exp 3 frac 2; reg p;");
        one.set(0, 61);
        Checks.due("one register", 61, one.poly(12, 0));
        Checks.due("one register", 0, one.poly(12, 1));
        FusedUnit none = Telling.made("form m plain exp 3 frac 2;");
        Checks.due("no registers", -1, none.poly(12, 0));
    }

    private static void total() {
        FusedUnit x = small();
        Checks.due("noughts", 0, x.total());
        x.set(0, 12);
        x.set(1, 14);
        x.set(2, 16);
        Checks.due("1 + 1.5 + 2 is 4.5, a half", 20, x.total());
        x.mode(3);
        Checks.due("up", 21, x.total());
        x.set(0, 59);
        x.set(1, 27);
        x.set(2, 1);
        Checks.due("one behind the other", 1, x.total());
        x.set(1, 60);
        x.set(2, INF);
        Checks.due("INF against INF", NAN, x.total());
        Checks.due("no flags", 0, x.count(4));
        FusedUnit none = Telling.made("form m plain exp 3 frac 2;");
        Checks.due("no registers", 0, none.total());
        FusedUnit minus = Telling.made("form m plain exp 3 frac 2; reg p;");
        minus.set(0, 32);
        Checks.due("-NOUGHT", 0, minus.total());
        minus.mode(2);
        Checks.due("-NOUGHT, down", 32, minus.total());
    }

    private static void polyAny() {
        Draws draws = new Draws(30);
        for (Oracle form : NumberTests.both()) {
            for (int mode = 0; mode < 6; mode++) {
                FusedUnit x = NumberTests.made(form);
                x.mode(mode);
                int[] registers = new int[6];
                for (int i = 0; i < 40; i++) {
                    int changed = draws.below(6);
                    registers[changed] = draws.near(form);
                    x.set(changed, registers[changed]);
                    int at = draws.near(form);
                    int value = registers[5];
                    int flags = 0;
                    for (int k = 4; k >= 0; k--) {
                        value = form.sum(value, at, registers[k], mode);
                        flags |= form.flags;
                    }
                    Checks.due("poly", value, x.poly(at, 0));
                    Checks.due("poly's flags", flags, x.poly(at, 1));
                    int total = 0;
                    for (int k = 0; k < 6; k++) {
                        total = form.sum(form.one(), registers[k], total, mode);
                    }
                    Checks.due("total", total, x.total());
                }
            }
        }
    }

    private static void settles() {
        FusedUnit x = small();
        Checks.due("at once", 0, x.settles(0, 0, 0, 0));
        x.set(0, 12);
        x.set(1, 12);
        Checks.due("1, 2, 4, 8, INF", 4, x.settles(0, 0, 1, 0));
        x.set(2, 44);
        Checks.due("1, 0, -1, .. to -8", 9, x.settles(0, 0, 1, 2));
        Checks.due("register stays", 12, x.reg(0));
        Checks.due("no flags", 0, x.count(4));
        Checks.due("nothing asked", 0, x.asked());
        Checks.due("changes", 3, x.count(7));
        int[] others = {-1, 3};
        for (int other : others) {
            Checks.due("into", -1, x.settles(other, 0, 0, 0));
            Checks.due("a", -1, x.settles(0, other, 0, 0));
            Checks.due("b", -1, x.settles(0, 0, other, 0));
            Checks.due("c", -1, x.settles(0, 0, 0, other));
        }
        x.set(1, 44);
        x.set(2, 0);
        Checks.due("1 and -1 in turn", -1, x.settles(0, 0, 1, 2));
    }

    private static void settlesAny() {
        Draws draws = new Draws(32);
        Oracle[] forms = {new Oracle(0, 3, 5), new Oracle(1, 4, 3), new Oracle(2, 8, 18), new Oracle(3, 3, 4), new Oracle(0, 6, 4)};
        int[] seen = new int[62];
        for (Oracle form : forms) {
            for (int mode = 0; mode < 6; mode++) {
                for (int i = 0; i < 60; i++) {
                    FusedUnit x = Telling.made(form, 3, "");
                    x.mode(mode);
                    int[] registers = {draws.near(form), draws.near(form), draws.near(form)};
                    if (i % 3 == 0) {
                        registers[1] = form.one() + draws.below(2) - draws.below(2);
                    }
                    for (int k = 0; k < 3; k++) {
                        x.set(k, registers[k]);
                    }
                    int due = settled(form, registers[0], registers[1], registers[2], mode);
                    seen[due + 1]++;
                    Checks.due("settles", due, x.settles(0, i % 2 == 0 ? 0 : 1, i % 2 == 0 ? 1 : 0, 2));
                }
            }
        }
        Checks.due("some do not settle", true, seen[0] > 0);
        exactly60();
    }

    private static int settled(Oracle form, int at, int b, int c, int mode) {
        int now = at;
        for (int i = 0; i <= 60; i++) {
            int then = form.sum(now, b, c, mode);
            if (then == now) {
                return i;
            }
            now = then;
        }
        return -1;
    }

    /** 1 is added until it is lost: a form of 5 BITS of fraction counts to 64. */
    private static void exactly60() {
        Oracle form = new Oracle(0, 5, 5);
        for (int from = 0; from <= 8; from++) {
            FusedUnit x = Telling.made(form, 3, "");
            int bits = form.of(from, 0);
            x.set(0, bits);
            x.set(1, form.one());
            x.set(2, form.one());
            int due = 64 - from <= 60 ? 64 - from : -1;
            Checks.due("settles from " + from, due, x.settles(0, 0, 1, 2));
        }
    }

    private static void gap() {
        FusedUnit x = small();
        int[][] rows = {{12, 12, 12, -2}, {16, 12, 12, -1}, {12, 16, 12, -1}, {12, 12, 16, -3}, {1, 1, 1, -4}, {1, 1, 27, -9}, {27, 27, 1, 6},
            {4, 4, 4, -4}, {3, 12, 4, -2}, {44, 13, 33, 0}, {27, 24, 59, 1}};
        for (int[] row : rows) {
            Checks.due("gap " + row[0] + " " + row[1] + " " + row[2], row[3], x.gap(row[0], row[1], row[2]));
        }
        int[] none = {0, 32, 28, 29, 60, 63, 64, -1};
        for (int bits : none) {
            Checks.refuses("gap a " + bits, () -> x.gap(bits, 12, 12));
            Checks.refuses("gap b " + bits, () -> x.gap(12, bits, 12));
            Checks.refuses("gap c " + bits, () -> x.gap(12, 12, bits));
        }
        x.use(1);
        for (int bits = 1; bits < 4; bits++) {
            int subnormal = bits;
            Checks.refuses("flush a", () -> x.gap(subnormal, 12, 12));
            Checks.refuses("flush b", () -> x.gap(12, subnormal | 32, 12));
            Checks.refuses("flush c", () -> x.gap(12, 12, subnormal));
        }
        Checks.due("flush NORMAL", -4, x.gap(4, 4, 4));
        x.use(3);
        Checks.due("whole", 1, x.gap(7, 7, 7));
    }

    private static void gapAny() {
        Draws draws = new Draws(33);
        for (Oracle form : NumberTests.both()) {
            FusedUnit x = NumberTests.made(form);
            for (int i = 0; i < 300; i++) {
                int a = draws.bits(form);
                int b = draws.bits(form);
                int c = draws.bits(form);
                boolean isThere = form.isFinite(a) && form.isFinite(b) && form.isFinite(c) && !form.isNought(a) && !form.isNought(b) && !form.isNought(c);
                if (isThere) {
                    Checks.due("gap", form.lastPlace(a) + form.lastPlace(b) - form.lastPlace(c), x.gap(a, b, c));
                } else {
                    Checks.refuses("gap", () -> x.gap(a, b, c));
                }
            }
        }
    }
}
