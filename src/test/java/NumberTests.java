/** Promises 14 to 17, 25 to 27, 29 and 36 to 38: what a number is, by hand and by the oracle. */
final class NumberTests {
    private static final Oracle.Law LAW = (minus, odd, guard, rest) -> guard ? !minus || odd : rest && odd;
    private static final String LAW_TEXT = "guard*(not minus or odd)or(not guard)*rest*odd";

    private NumberTests() {
    }

    static void run() {
        Checks.test("promise 14: classes", NumberTests::sort);
        Checks.test("promise 15: order", NumberTests::order);
        Checks.test("promise 15: order of all pairs", NumberTests::orderAll);
        Checks.test("promise 16: above", NumberTests::above);
        Checks.test("promise 16, 17: neighbours of all", NumberTests::neighboursAll);
        Checks.test("promise 17: below", NumberTests::below);
        Checks.test("promise 25: parts", NumberTests::part);
        Checks.test("promise 26: join", NumberTests::join);
        Checks.test("promise 25, 26: parts of all are joined again", NumberTests::partsAll);
        Checks.test("promise 27: scale", NumberTests::scale);
        Checks.test("promise 27: scale by the oracle", NumberTests::scaleAny);
        Checks.test("promise 29: apart", NumberTests::apart);
        Checks.test("promise 29: apart by steps", NumberTests::apartAll);
        Checks.test("promise 36: whole", NumberTests::whole);
        Checks.test("promise 36: whole by the oracle", NumberTests::wholeAny);
        Checks.test("promise 37: of", NumberTests::of);
        Checks.test("promise 37: of by the oracle", NumberTests::ofAny);
        Checks.test("promise 38: into", NumberTests::into);
        Checks.test("promise 38: into by the oracle", NumberTests::intoAny);
    }

    static Oracle[] small() {
        return new Oracle[] {new Oracle(0, 3, 2, LAW), new Oracle(1, 3, 2, LAW), new Oracle(2, 3, 2, LAW), new Oracle(3, 3, 2, LAW),
            new Oracle(0, 2, 1, LAW), new Oracle(1, 2, 1, LAW), new Oracle(2, 2, 3, LAW), new Oracle(3, 2, 1, LAW)};
    }

    static Oracle[] large() {
        return new Oracle[] {new Oracle(0, 8, 18, LAW), new Oracle(1, 8, 18, LAW), new Oracle(2, 8, 18, LAW), new Oracle(3, 8, 18, LAW),
            new Oracle(0, 5, 10, LAW), new Oracle(1, 6, 9, LAW), new Oracle(2, 2, 18, LAW), new Oracle(3, 8, 1, LAW)};
    }

    static FusedUnit made(Oracle form) {
        return Telling.made(form, 6, LAW_TEXT);
    }

    private static void sort() {
        FusedUnit x = Telling.made(Telling.SMALL);
        int[] bits = {0, 1, 3, 4, 27, 28, 29, 31, 32, 33, 35, 36, 59, 60, 61, 63, 64, -1, Integer.MIN_VALUE, Integer.MAX_VALUE};
        int[] due = {0, 1, 1, 2, 2, 3, 4, 4, 0, 1, 1, 2, 2, 3, 4, 4, -1, -1, -1, -1};
        for (int form = 0; form < 3; form++) {
            x.use(form);
            for (int i = 0; i < bits.length; i++) {
                Checks.due("sort " + bits[i], due[i], x.sort(bits[i]));
            }
        }
        x.use(3);
        int[] whole = {0, 1, 2, 2, 2, 2, 2, 2, 0, 1, 2, 2, 2, 2, 2, 2, -1};
        for (int i = 0; i < whole.length; i++) {
            Checks.due("whole sort " + i, whole[i], x.sort(i));
        }
    }

    private static void order() {
        FusedUnit x = Telling.made(Telling.SMALL);
        int[][] due = {{0, 32, 0}, {32, 0, 0}, {0, 0, 0}, {1, 0, 1}, {33, 32, -1}, {28, 27, 1}, {60, 59, -1}, {60, 28, -1}, {28, 28, 0},
            {29, 29, 2}, {0, 61, 2}, {30, 0, 2}, {64, 0, -2}, {0, 64, -2}, {-1, 0, -2}, {0, -1, -2}, {30, 64, -2}, {12, 44, 1}, {44, 12, -1}};
        for (int[] row : due) {
            Checks.due("order " + row[0] + " " + row[1], row[2], x.order(row[0], row[1]));
        }
        x.use(1);
        Checks.due("a SUBNORMAL of a flush form is more than nought", 1, x.order(1, 0));
    }

    private static void orderAll() {
        for (Oracle form : small()) {
            for (int a = 0; a < form.many(); a++) {
                FusedUnit x = made(form);
                for (int b = 0; b < form.many(); b++) {
                    Checks.due("order " + a + " " + b, form.order(a, b), x.order(a, b));
                }
            }
        }
        Draws draws = new Draws(15);
        for (Oracle form : large()) {
            FusedUnit x = made(form);
            for (int i = 0; i < 200; i++) {
                int a = draws.bits(form);
                int b = draws.bits(form);
                Checks.due("order " + a + " " + b, form.order(a, b), x.order(a, b));
            }
        }
    }

    private static void above() {
        FusedUnit x = Telling.made(Telling.SMALL);
        int[][] due = {{0, 1}, {32, 1}, {1, 2}, {3, 4}, {7, 8}, {27, 28}, {28, 28}, {29, 29}, {31, 31}, {33, 32}, {34, 33}, {36, 35}, {59, 58},
            {60, 59}, {61, 61}, {63, 63}, {64, -1}, {-1, -1}};
        for (int form = 0; form < 3; form++) {
            x.use(form);
            for (int[] row : due) {
                Checks.due("above " + row[0], row[1], x.above(row[0]));
            }
        }
        x.use(3);
        int[][] whole = {{0, 1}, {8, 1}, {6, 7}, {7, 7}, {9, 8}, {15, 14}, {16, -1}};
        for (int[] row : whole) {
            Checks.due("above " + row[0], row[1], x.above(row[0]));
        }
    }

    private static void below() {
        FusedUnit x = Telling.made(Telling.SMALL);
        int[][] due = {{0, 33}, {32, 33}, {1, 0}, {2, 1}, {4, 3}, {27, 26}, {28, 27}, {29, 29}, {31, 31}, {33, 34}, {35, 36}, {59, 60}, {60, 60},
            {61, 61}, {63, 63}, {64, -1}, {-1, -1}};
        for (int form = 0; form < 3; form++) {
            x.use(form);
            for (int[] row : due) {
                Checks.due("below " + row[0], row[1], x.below(row[0]));
            }
        }
        x.use(3);
        int[][] whole = {{0, 9}, {8, 9}, {7, 6}, {1, 0}, {9, 10}, {14, 15}, {15, 15}, {16, -1}};
        for (int[] row : whole) {
            Checks.due("below " + row[0], row[1], x.below(row[0]));
        }
    }

    private static void neighboursAll() {
        for (Oracle form : small()) {
            FusedUnit x = made(form);
            for (int b = 0; b < form.many(); b++) {
                Checks.due("above " + b, form.next(b), x.above(b));
                Checks.due("below " + b, form.turned(form.next(form.turned(b))), x.below(b));
            }
        }
        Draws draws = new Draws(16);
        for (Oracle form : large()) {
            FusedUnit x = made(form);
            for (int i = 0; i < 100; i++) {
                int b = draws.bits(form);
                Checks.due("above " + b, form.next(b), x.above(b));
                Checks.due("below " + b, form.turned(form.next(form.turned(b))), x.below(b));
            }
        }
    }

    private static void part() {
        FusedUnit x = Telling.made(Telling.SMALL);
        int[][] due = {{0, 0, 0}, {0, 1, 0}, {0, 2, 0}, {45, 0, 1}, {45, 1, 3}, {45, 2, 1}, {63, 0, 1}, {63, 1, 7}, {63, 2, 3}, {31, 0, 0},
            {45, 3, -1}, {45, -1, -1}, {64, 0, -1}, {-1, 1, -1}};
        for (int[] row : due) {
            Checks.due("part " + row[0] + " " + row[1], row[2], x.part(row[0], row[1]));
        }
    }

    private static void join() {
        FusedUnit x = Telling.made(Telling.SMALL);
        int[][] due = {{0, 0, 0, 0}, {1, 3, 1, 45}, {1, 7, 3, 63}, {0, 7, 2, 30}, {2, 0, 0, -1}, {-1, 0, 0, -1}, {0, 8, 0, -1}, {0, -1, 0, -1},
            {0, 0, 4, -1}, {0, 0, -1, -1}, {1, 0, 0, 32}};
        for (int[] row : due) {
            Checks.due("join " + row[0] + " " + row[1] + " " + row[2], row[3], x.join(row[0], row[1], row[2]));
        }
    }

    private static void partsAll() {
        for (Oracle form : small()) {
            FusedUnit x = made(form);
            for (int b = 0; b < form.many(); b++) {
                Checks.due("joined " + b, b, x.join(x.part(b, 0), x.part(b, 1), x.part(b, 2)));
            }
        }
        FusedUnit x = made(large()[0]);
        Checks.due("large", (1 << 26) + (5 << 18) + 7, x.join(1, 5, 7));
        Checks.due("exponent", 5, x.part((1 << 26) + (5 << 18) + 7, 1));
        Checks.due("fraction", 7, x.part((1 << 26) + (5 << 18) + 7, 2));
    }

    private static void scale() {
        FusedUnit x = Telling.made(Telling.SMALL);
        int[][] due = {{13, 0, 13}, {13, 1, 17}, {13, -1, 9}, {13, 3, 25}, {13, 4, 28}, {13, -3, 2}, {13, -400, 0}, {45, -400, 32}, {13, 400, 28},
            {13, 401, -1}, {13, -401, -1}, {64, 0, -1}, {-1, 0, -1}, {28, -400, 28}, {60, 9, 60}, {0, 400, 0}, {32, 1, 32}, {30, 1, 30}, {29, 1, 30},
            {63, 0, 30}, {1, 2, 4}, {3, 1, 6}, {1, 400, 28}};
        for (int[] row : due) {
            Checks.due("scale " + row[0] + " " + row[1], row[2], x.scale(row[0], row[1]));
        }
        Checks.due("no flags", 0, x.count(4));
        x.mode(3);
        Checks.due("up", 1, x.scale(13, -400));
        Checks.due("up, minus", 32, x.scale(45, -400));
        x.use(1);
        Checks.due("flush", 0, x.scale(13, -3));
        Checks.due("a SUBNORMAL as it is", 4, x.scale(1, 2));
        Checks.due("a SUBNORMAL stays none", 0, x.scale(1, 0));
        x.use(2);
        Checks.due("sat", 27, x.scale(13, 4));
        Checks.due("INF stays", 28, x.scale(28, -4));
        x.use(3);
        Checks.due("whole", 7, x.scale(7, 1));
        Checks.due("6 / 2", 5, x.scale(7, -1));
    }

    private static void scaleAny() {
        Draws draws = new Draws(27);
        for (Oracle form : both()) {
            FusedUnit x = made(form);
            for (int i = 0; i < 480; i++) {
                int mode = i / 80;
                if (i % 80 == 0) {
                    x.mode(mode);
                }
                int b = draws.bits(form);
                int n = i % 3 == 0 ? draws.below(801) - 400 : draws.below(2 * form.f + 9) - form.f - 4;
                Checks.due("scale " + b + " " + n + " mode " + mode, form.scaled(b, n, mode), x.scale(b, n));
            }
        }
    }

    static Oracle[] both() {
        Oracle[] all = new Oracle[small().length + large().length];
        System.arraycopy(small(), 0, all, 0, small().length);
        System.arraycopy(large(), 0, all, small().length, large().length);
        return all;
    }

    private static void apart() {
        FusedUnit x = Telling.made(Telling.SMALL);
        int[][] due = {{0, 0, 0}, {0, 32, 0}, {32, 0, 0}, {33, 1, 2}, {1, 33, 2}, {27, 28, 1}, {60, 28, 56}, {28, 60, 56}, {0, 33, 1}, {32, 1, 1},
            {12, 13, 1}, {29, 0, -1}, {0, 63, -1}, {64, 0, -1}, {0, 64, -1}, {-1, 0, -1}, {0, -1, -1}, {44, 13, 25}};
        for (int[] row : due) {
            Checks.due("apart " + row[0] + " " + row[1], row[2], x.apart(row[0], row[1]));
        }
    }

    private static void apartAll() {
        for (Oracle form : small()) {
            for (int a = 0; a < form.many(); a += 1 + a % 3) {
                if (form.isNan(a)) {
                    continue;
                }
                FusedUnit x = made(form);
                int steps = 0;
                int at = a;
                for (int i = 0; i < form.many() && form.order(at, form.next(at)) < 0; i++) {
                    Checks.due("apart " + a + " " + at, steps, x.apart(a, at));
                    Checks.due("apart " + at + " " + a, steps, x.apart(at, a));
                    at = form.next(at);
                    steps++;
                }
                Checks.due("apart " + a + " " + at, steps, x.apart(a, at));
            }
        }
    }

    private static void whole() {
        FusedUnit x = Telling.made(Telling.SMALL);
        int[] bits = {0, 32, 8, 40, 9, 12, 14, 46, 17, 18, 27, 59, 1, 33};
        int[][] due = {{0, 0, 0, 0, 1, 1, 2, -2, 2, 3, 14, -14, 0, 0}, {0, 0, 0, 0, 0, 1, 1, -1, 2, 3, 14, -14, 0, 0},
            {0, 0, 0, -1, 0, 1, 1, -2, 2, 3, 14, -14, 0, -1}, {0, 0, 1, 0, 1, 1, 2, -1, 3, 3, 14, -14, 1, 0},
            {0, 0, 1, -1, 1, 1, 2, -2, 3, 3, 14, -14, 0, 0}, {0, 0, 0, 0, 0, 1, 1, -1, 2, 3, 14, -14, 0, 0}};
        for (int mode = 0; mode < 6; mode++) {
            x.mode(mode);
            for (int i = 0; i < bits.length; i++) {
                Checks.due("whole " + bits[i] + " mode " + mode, due[mode][i], x.whole(bits[i]));
            }
        }
        Checks.due("no flags", 0, x.count(4));
        int[] none = {28, 29, 30, 31, 60, 63, 64, -1};
        for (int b : none) {
            Checks.refuses("whole " + b, () -> x.whole(b));
        }
        x.use(3);
        Checks.due("whole form", 6, x.whole(7));
        FusedUnit large = Telling.made(Telling.LARGE);
        int two31 = (127 + 31) << 18;
        Checks.refuses("2 to the power of 31", () -> large.whole(two31));
        Checks.due("just below", 2147479552, large.whole(two31 - 1));
        Checks.due("minus", Integer.MIN_VALUE, large.whole(two31 | 1 << 26));
        Checks.refuses("below the least int", () -> large.whole((two31 | 1 << 26) + 1));
        Checks.refuses("far beyond", () -> large.whole((254 << 18) + 5));
        Checks.due("2 to the power of 30", 1 << 30, large.whole((127 + 30) << 18));
        Checks.due("far below", 0, large.whole(1));
        large.mode(3);
        Checks.due("far below, up", 1, large.whole(1));
    }

    private static void wholeAny() {
        Draws draws = new Draws(36);
        for (Oracle form : both()) {
            FusedUnit x = made(form);
            for (int i = 0; i < 480; i++) {
                int mode = i / 80;
                if (i % 80 == 0) {
                    x.mode(mode);
                }
                int b = draws.bits(form);
                if (i % 2 == 0) {
                    int exponent = Math.min((1 << form.x) - 1, form.bias + draws.below(35) - 1);
                    b = (b & form.signBit) | exponent << form.f | draws.below(1 << form.f);
                }
                Integer due = form.whole(b, mode);
                int bits = b;
                if (due == null) {
                    Checks.refuses("whole " + b, () -> x.whole(bits));
                } else {
                    Checks.due("whole " + b + " mode " + mode, due, x.whole(b));
                }
            }
        }
    }

    private static void of() {
        FusedUnit x = Telling.made(Telling.SMALL);
        int[][] due = {{0, 0}, {1, 12}, {-1, 44}, {2, 16}, {3, 18}, {5, 21}, {9, 24}, {11, 26}, {14, 27}, {15, 28}, {-15, 60}, {16, 28},
            {Integer.MAX_VALUE, 28}, {Integer.MIN_VALUE, 60}};
        for (int[] row : due) {
            Checks.due("of " + row[0], row[1], x.of(row[0]));
        }
        Checks.due("no flags", 0, x.count(4));
        x.mode(2);
        Checks.due("nought", 0, x.of(0));
        Checks.due("down", 24, x.of(9));
        Checks.due("down, minus", 57, x.of(-9));
        Checks.due("GREATEST", 27, x.of(15));
        FusedUnit large = Telling.made(Telling.LARGE);
        Checks.due("the greatest int", (127 + 31) << 18, large.of(Integer.MAX_VALUE));
        Checks.due("the least int", (127 + 31) << 18 | 1 << 26, large.of(Integer.MIN_VALUE));
        large.mode(1);
        Checks.due("the greatest int, cut", ((127 + 31) << 18) - 1, large.of(Integer.MAX_VALUE));
    }

    private static void ofAny() {
        Draws draws = new Draws(37);
        for (Oracle form : both()) {
            FusedUnit x = made(form);
            for (int i = 0; i < 480; i++) {
                int mode = i / 80;
                if (i % 80 == 0) {
                    x.mode(mode);
                }
                int n = (int) (draws.next() >> draws.below(63));
                Checks.due("of " + n + " mode " + mode, form.of(n, mode), x.of(n));
            }
        }
    }

    private static void into() {
        FusedUnit x = Telling.made(Telling.SMALL);
        int[][] due = {{3, 13, 2}, {3, 28, 7}, {3, 60, 15}, {3, 30, 0}, {3, 63, 0}, {3, 32, 8}, {3, 27, 7}, {1, 3, 0}, {1, 35, 32}, {0, 29, 30}, {0, 3, 3},
            {2, 28, 28}, {2, 60, 60}, {4, 0, -1}, {-1, 0, -1}, {0, 64, -1}, {0, -1, -1}, {3, 8, 1}, {3, 1, 0}};
        for (int[] row : due) {
            Checks.due("into " + row[0] + " " + row[1], row[2], x.into(row[0], row[1]));
        }
        Checks.due("no flags", 0, x.count(4));
        Checks.due("form stays", 0, x.count(2));
        Checks.due("no change", 0, x.count(7));
        x.mode(3);
        Checks.due("up", 3, x.into(3, 13));
        Checks.due("up", 1, x.into(3, 1));
    }

    private static void intoAny() {
        Draws draws = new Draws(38);
        Oracle[] forms = {new Oracle(0, 8, 18, LAW), new Oracle(1, 4, 3, LAW), new Oracle(2, 5, 6, LAW), new Oracle(3, 3, 2, LAW)};
        StringBuilder text = new StringBuilder("own " + LAW_TEXT + ";");
        for (int i = 0; i < 4; i++) {
            text.append(forms[i].text("f" + (char) ('a' + i)));
        }
        FusedUnit x = Telling.made(text.toString());
        for (int round = 0; round < 24; round++) {
            x = round % 2 == 0 ? Telling.made(text.toString()) : x;
            int from = round / 6;
            int mode = round % 6;
            x.use(from);
            x.mode(mode);
            for (int i = 0; i < 240; i++) {
                int to = i % 4;
                int b = i % 3 == 0 ? draws.near(forms[from]) : draws.bits(forms[from]);
                Checks.due("into " + to + " from " + from + " " + b, forms[from].into(forms[to], b, mode), x.into(to, b));
            }
        }
    }
}
