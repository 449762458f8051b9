/** Promises 39 to 44 and 49 to 51: what is tried with all BITS of a small form. */
final class SmallFormTests {
    private SmallFormTests() {
    }

    static void run() {
        Checks.test("promise 39: exacts", SmallFormTests::exacts);
        Checks.test("promise 40: swallows", SmallFormTests::swallows);
        Checks.test("promise 41: raises", SmallFormTests::raises);
        Checks.test("promise 42: ties", SmallFormTests::ties);
        Checks.test("promise 39 to 42: by the oracle", SmallFormTests::countsAny);
        Checks.test("promise 43: root", SmallFormTests::root);
        Checks.test("promise 44: inverse", SmallFormTests::inverse);
        Checks.test("promise 43, 44: by the oracle", SmallFormTests::rootsAny);
        Checks.test("promise 39 to 44, 49 to 51: forms that are too large", SmallFormTests::tooLarge);
        Checks.test("promise 39 to 44: other bits", SmallFormTests::others);
        Checks.test("promise 49: see", SmallFormTests::see);
        Checks.test("promise 50: fit", SmallFormTests::fit);
        Checks.test("promise 51: least", SmallFormTests::least);
        Checks.test("promise 50, 51: by the oracle", SmallFormTests::fitAny);
    }

    private static FusedUnit small() {
        return Telling.made(Telling.SMALL);
    }

    private static void exacts() {
        FusedUnit x = small();
        Checks.due("NAN: all", 64, x.exacts(29, 0));
        Checks.due("nought: all", 64, x.exacts(0, 0));
        Checks.due("INF times NOUGHT: all", 64, x.exacts(28, 0));
        Checks.due("beyond: INF and NAN alone", 8, x.exacts(27, 27));
        x.use(1);
        Checks.due("flush, nought: all", 64, x.exacts(1, 12));
    }

    private static void swallows() {
        FusedUnit x = small();
        Checks.due("NAN: THE NAN", 1, x.swallows(29, 0));
        Checks.due("INF: INF and THE NAN", 2, x.swallows(28, 12));
        Checks.due("INF times NOUGHT: THE NAN", 1, x.swallows(28, 0));
        Checks.due("nought: all but -NOUGHT and other NANS", 64 - 1 - 5, x.swallows(0, 0));
        Checks.due("-NOUGHT: all but other NANS", 64 - 5, x.swallows(32, 12));
        x.use(1);
        Checks.due("flush: SUBNORMALS, too, are lost", 64 - 1 - 5 - 6, x.swallows(0, 0));
    }

    private static void raises() {
        FusedUnit x = small();
        Checks.due("NAN: none", 0, x.raises(29, 0, 1));
        Checks.due("INF times NOUGHT: all but NANS", 64 - 6, x.raises(28, 0, 1));
        Checks.due("INF: -INF", 1, x.raises(28, 12, 1));
        Checks.due("all of these", 0, x.raises(28, 12, 9));
        Checks.due("beyond", 56, x.raises(27, 27, 10));
        Checks.due("beyond", 56, x.raises(27, 27, 2));
        Checks.due("beyond", 56, x.raises(27, 27, 8));
        Checks.due("no underflow", 0, x.raises(27, 27, 12));
        Checks.due("all flags", 0, x.raises(27, 27, 15));
        int[] others = {0, -1, 16, 31, Integer.MIN_VALUE};
        for (int other : others) {
            Checks.due("flags " + other, -1, x.raises(12, 12, other));
        }
    }

    private static void ties() {
        FusedUnit x = small();
        Checks.due("NAN: none", 0, x.ties(29, 0));
        Checks.due("nought: none", 0, x.ties(0, 0));
        Checks.due("INF: none", 0, x.ties(28, 12));
        Checks.due("least: none is half", 0, x.ties(1, 1));
    }

    private static Oracle[] forms() {
        Oracle.Law law = (minus, odd, guard, rest) -> minus != rest;
        return new Oracle[] {new Oracle(0, 3, 2, law), new Oracle(1, 3, 2, law), new Oracle(2, 4, 3, law), new Oracle(3, 3, 3, law),
            new Oracle(0, 2, 7, law), new Oracle(1, 8, 1, law), new Oracle(2, 2, 1, law), new Oracle(3, 4, 5, law), new Oracle(0, 5, 4, law)};
    }

    private static FusedUnit made(Oracle form, int mode) {
        FusedUnit x = Telling.made(form, 1, "not(minus = rest)");
        x.mode(mode);
        return x;
    }

    private static void countsAny() {
        Draws draws = new Draws(39);
        for (Oracle form : forms()) {
            for (int mode = 0; mode < 6; mode++) {
                FusedUnit x = made(form, mode);
                for (int i = 0; i < 6; i++) {
                    countsOf(form, x, i % 2 == 0 ? draws.near(form) : draws.bits(form), i % 3 == 0 ? draws.bits(form) : draws.near(form), mode);
                }
            }
        }
    }

    private static void countsOf(Oracle form, FusedUnit x, int a, int b, int mode) {
        int exacts = 0;
        int swallows = 0;
        int ties = 0;
        int[] raises = new int[16];
        for (int c = 0; c < form.many(); c++) {
            swallows += form.sum(a, b, c, mode) == c ? 1 : 0;
            exacts += (form.flags & 8) == 0 ? 1 : 0;
            ties += form.rounded && form.guard && !form.rest ? 1 : 0;
            for (int flags = 1; flags < 16; flags++) {
                raises[flags] += (form.flags & flags) == flags ? 1 : 0;
            }
        }
        String call = form.text("") + " " + a + " " + b + " mode " + mode;
        Checks.due("exacts " + call, exacts, x.exacts(a, b));
        Checks.due("swallows " + call, swallows, x.swallows(a, b));
        Checks.due("ties " + call, ties, x.ties(a, b));
        for (int flags = 1; flags < 16; flags++) {
            Checks.due("raises " + flags + " " + call, raises[flags], x.raises(a, b, flags));
        }
    }

    private static void root() {
        FusedUnit x = small();
        Checks.due("of 1", 12, x.root(12));
        Checks.due("of 4", 16, x.root(20));
        Checks.due("of -1: none", -1, x.root(44));
        Checks.due("of nought: 2 / 16 squared is lost", 2, x.root(0));
        Checks.due("of INF: below INF", 27, x.root(28));
        Checks.due("of NAN: none", -1, x.root(29));
        Checks.due("of -INF: none", -1, x.root(60));
        x.use(3);
        Checks.due("of GREATEST: 2", 4, x.root(7));
    }

    private static void inverse() {
        FusedUnit x = small();
        Checks.due("of 1", 12, x.inverse(12));
        Checks.due("of 2", 8, x.inverse(16));
        Checks.due("of -2", 40, x.inverse(48));
        Checks.due("of nought: all as far, the least", 0, x.inverse(0));
        Checks.due("of NAN: none", -1, x.inverse(30));
        Checks.due("of INF: INF all, but NAN for nought", 1, x.inverse(28));
        x.use(1);
        Checks.due("of INF, flush: the least that is none of nought", 4, x.inverse(28));
    }

    private static void rootsAny() {
        for (Oracle form : forms()) {
            for (int mode = 0; mode < 6; mode++) {
                FusedUnit x = made(form, mode);
                int step = Math.max(1, form.many() / 32);
                for (int bits = 0; bits < form.many(); bits += bits % step == 0 ? 1 : step - 1) {
                    Checks.due(form.text("") + " root " + bits + " mode " + mode, rootOf(form, bits, mode), x.root(bits));
                    Checks.due(form.text("") + " inverse " + bits + " mode " + mode, inverseOf(form, bits, mode), x.inverse(bits));
                }
            }
        }
    }

    private static int rootOf(Oracle form, int bits, int mode) {
        int root = -1;
        for (int x = 0; x <= form.top(); x++) {
            int told = form.sum(x, x, form.turned(bits), mode);
            if (!form.isNan(told) && (form.minus(told) || form.size(told) == 0)) {
                root = x;
            }
        }
        return root;
    }

    private static int inverseOf(Oracle form, int bits, int mode) {
        int inverse = -1;
        int nearest = form.signBit;
        for (int x = form.many() - 1; x >= 0; x--) {
            int told = form.sum(x, bits, form.turned(form.one()), mode);
            if (!form.isNan(told) && form.size(told) <= nearest) {
                inverse = x;
                nearest = form.size(told);
            }
        }
        return inverse;
    }

    private static void tooLarge() {
        FusedUnit x = Telling.made("form a plain exp 8 frac 2; form b sat exp 3 frac 7; form c flush exp 8 frac 1; form d whole exp 2 frac 7;");
        for (int form = 0; form < 4; form++) {
            x.use(form);
            boolean isLarge = form < 2;
            Checks.due("exacts", isLarge, x.exacts(0, 0) == -1);
            Checks.due("swallows", isLarge, x.swallows(0, 0) == -1);
            Checks.due("raises", isLarge, x.raises(0, 0, 1) == -1);
            Checks.due("ties", isLarge, x.ties(0, 0) == -1);
            Checks.due("root", isLarge, x.root(0) == -1);
            Checks.due("inverse", isLarge, x.inverse(0) == -1);
            Checks.due("see", !isLarge, x.see(0, true));
            Checks.due("fit", isLarge, x.fit() == -1);
            Checks.due("least", isLarge, x.least() == -1);
        }
    }

    private static void others() {
        FusedUnit x = small();
        int[] others = {-1, 64, 76, 12 - 64, Integer.MIN_VALUE, Integer.MIN_VALUE + 12, Integer.MAX_VALUE};
        for (int other : others) {
            Checks.due("exacts", -1, x.exacts(other, 0));
            Checks.due("exacts", -1, x.exacts(0, other));
            Checks.due("swallows", -1, x.swallows(other, 0));
            Checks.due("swallows", -1, x.swallows(0, other));
            Checks.due("raises", -1, x.raises(other, 0, 1));
            Checks.due("raises", -1, x.raises(0, other, 1));
            Checks.due("ties", -1, x.ties(other, 0));
            Checks.due("ties", -1, x.ties(0, other));
            Checks.due("root", -1, x.root(other));
            Checks.due("inverse", -1, x.inverse(other));
            Checks.due("see", false, x.see(other, true));
        }
        Checks.due("nothing seen", 0, x.count(6));
        Checks.due("no flags", 0, x.count(4));
    }

    private static void see() {
        FusedUnit x = small();
        for (int i = 0; i < 8; i++) {
            Checks.due("see " + i, true, x.see(44, i % 2 == 0));
            Checks.due("count", i + 1, x.count(6));
        }
        Checks.due("a ninth one", false, x.see(44, true));
        Checks.due("count", 8, x.count(6));
        Checks.due("no change", 0, x.count(7));
        x.use(1);
        Checks.due("none by use", 0, x.count(6));
        Checks.due("see", true, x.see(0, true));
        x.undo();
        Checks.due("none by undo", 0, x.count(6));
        x.mark(0, false);
        Checks.due("see", true, x.see(63, false));
        x.mark(1, false);
        x.mode(2);
        x.set(0, 1);
        x.clear();
        x.fma(0, 0, 0, 0);
        Checks.due("stays", 1, x.count(6));
        x.mark(0, true);
        Checks.due("none by going back", 0, x.count(6));
    }

    private static void fit() {
        FusedUnit x = small();
        Checks.due("nothing seen", 64, x.fit());
        Checks.due("see", true, x.see(44, true));
        Checks.due("at least 1", 34, x.fit());
        x.see(48, false);
        Checks.due("less than the root of 2", 4, x.fit());
        x.see(48, true);
        Checks.due("none", 0, x.fit());
        FusedUnit y = small();
        y.see(45, true);
        Checks.due("1.25 at least: 1.25 squared is more, 1 is less", 32, y.fit());
        y.use(0);
        y.see(30, true);
        Checks.due("NAN is not at least", 0, y.fit());
        y.use(0);
        y.see(30, false);
        Checks.due("NAN is not", 64, y.fit());
        y.use(0);
        y.see(32, true);
        Checks.due("nought, too, is at least 0", 58, y.fit());
        y.mode(2);
        Checks.due("-NOUGHT as well", 58, y.fit());
    }

    private static void least() {
        FusedUnit x = small();
        Checks.due("nothing seen", 0, x.least());
        x.see(44, true);
        Checks.due("1", 12, x.least());
        x.see(12, false);
        Checks.due("none", -1, x.least());
        FusedUnit y = small();
        y.see(0, false);
        Checks.due("NAN alone", 29, y.least());
        Checks.due("NANS", 6, y.fit());
    }

    private static void fitAny() {
        Draws draws = new Draws(50);
        for (Oracle form : forms()) {
            for (int round = 0; round < 4; round++) {
                FusedUnit x = made(form, 0);
                int[] bits = new int[8];
                boolean[] is = new boolean[8];
                int unknown = draws.near(form);
                for (int seen = 0; seen < 8; seen++) {
                    bits[seen] = seen % 2 == 0 ? draws.bits(form) : form.turned(form.sum(unknown, draws.near(form), 0, 0));
                    int told = form.sum(unknown, unknown, bits[seen], 0);
                    is[seen] = !form.isNan(told) && (!form.minus(told) || form.size(told) == 0);
                    x.see(bits[seen], is[seen]);
                    int mode = draws.below(6);
                    x.mode(mode);
                    int fit = 0;
                    int least = -1;
                    for (int u = form.many() - 1; u >= 0; u--) {
                        if (fits(form, u, bits, is, seen + 1, mode)) {
                            fit++;
                            least = u;
                        }
                    }
                    Checks.due("fit", fit, x.fit());
                    Checks.due("least", least, x.least());
                }
            }
        }
    }

    static boolean fits(Oracle form, int unknown, int[] bits, boolean[] is, int seen, int mode) {
        for (int i = 0; i < seen; i++) {
            int told = form.sum(unknown, unknown, bits[i], mode);
            boolean isAtLeast = !form.isNan(told) && (!form.minus(told) || form.size(told) == 0);
            if (isAtLeast != is[i]) {
                return false;
            }
        }
        return true;
    }
}
