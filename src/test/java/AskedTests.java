/** Promises 45 to 48: which sums were asked, how often, and what came of them. */
final class AskedTests {
    private AskedTests() {
    }

    static void run() {
        Checks.test("promise 45: each once", AskedTests::asked);
        Checks.test("promise 46: how often", AskedTests::often);
        Checks.test("promise 47: times", AskedTests::times);
        Checks.test("promise 48: results", AskedTests::results);
        Checks.test("promise 48: results of forms", AskedTests::resultsOfForms);
        Checks.test("promise 45 to 48: undone", AskedTests::undone);
        Checks.test("promise 45 to 48: many", AskedTests::many);
    }

    private static FusedUnit small() {
        return Telling.made("form m plain exp 3 frac 2; form n plain exp 3 frac 2; form s sat exp 3 frac 2; form w whole exp 3 frac 2;"
                + "reg p; reg q; reg r; reg v; reg t; reg u;");
    }

    private static FusedUnit withRegisters(int... bits) {
        FusedUnit x = small();
        for (int i = 0; i < bits.length; i++) {
            x.set(i, bits[i]);
        }
        return x;
    }

    private static void asked() {
        FusedUnit x = withRegisters(12, 13, 14, 0, 32);
        Checks.due("none", 0, x.asked());
        x.fma(5, 0, 1, 2);
        Checks.due("one", 1, x.asked());
        x.fma(5, 1, 0, 2);
        Checks.due("factors the other way", 1, x.asked());
        x.fma(5, 0, 2, 1);
        Checks.due("another addend", 2, x.asked());
        x.mode(1);
        x.fma(5, 0, 1, 2);
        Checks.due("by another mode", 3, x.asked());
        x.use(1);
        x.fma(5, 0, 1, 2);
        Checks.due("of another form", 4, x.asked());
        x.fma(5, 0, 1, 3);
        x.fma(5, 0, 1, 4);
        Checks.due("noughts differ", 6, x.asked());
        x.sum(1, 1, 1, 1);
        x.plans(1, 9, 0);
        Telling.plan(x, "fma p p p p;");
        x.judged(1);
        x.settles(0, 1, 2, 3);
        x.poly(1, 1);
        Checks.due("sums that are not asked", 6, x.asked());
        x.mode(0);
        x.use(0);
        x.fma(5, 0, 1, 2);
        Checks.due("the first one again", 6, x.asked());
        Checks.due("so often", 3, x.often(0));
    }

    private static void often() {
        FusedUnit x = withRegisters(12, 13, 14);
        Checks.due("none", -1, x.often(0));
        x.fma(5, 0, 1, 2);
        x.fma(5, 0, 0, 2);
        x.fma(5, 1, 0, 2);
        x.fma(5, 1, 1, 2);
        x.fma(5, 0, 1, 2);
        int[] due = {3, 1, 1, -1};
        for (int i = 0; i < due.length; i++) {
            Checks.due("often " + i, due[i], x.often(i));
        }
        Checks.due("others", -1, x.often(-1));
        Checks.due("others", -1, x.often(Integer.MAX_VALUE));
        Checks.due("others", -1, x.often(511));
        Checks.due("others", -1, x.often(512));
    }

    private static void times() {
        FusedUnit x = withRegisters(12, 13, 14);
        x.fma(5, 0, 1, 2);
        x.fma(5, 1, 0, 2);
        Checks.due("twice", 2, x.times(12, 13, 14, 0));
        Checks.due("the other way", 2, x.times(13, 12, 14, 0));
        Checks.due("another addend", 0, x.times(14, 13, 12, 0));
        Checks.due("another mode", 0, x.times(12, 13, 14, 1));
        Checks.due("other factors", 0, x.times(12, 12, 14, 0));
        Checks.due("other factors", 0, x.times(13, 13, 14, 0));
        int[][] others = {{64, 13, 14, 0}, {12, 64, 14, 0}, {12, 13, 64, 0}, {12, 13, 14, 6}, {-1, 13, 14, 0}, {12, -1, 14, 0}, {12, 13, -1, 0},
            {12, 13, 14, -1}};
        for (int[] row : others) {
            Checks.due("others", -1, x.times(row[0], row[1], row[2], row[3]));
        }
        x.mode(4);
        Checks.due("by the mode that is told", 2, x.times(12, 13, 14, 0));
        x.use(1);
        Checks.due("of another form", 0, x.times(12, 13, 14, 0));
        x.use(0);
        Checks.due("of that form again", 2, x.times(12, 13, 14, 0));
        x.set(0, 63);
        x.fma(5, 0, 0, 0);
        Checks.due("NANS by their bits", 1, x.times(63, 63, 63, 4));
        Checks.due("another NAN", 0, x.times(30, 63, 63, 4));
    }

    private static void results() {
        FusedUnit x = withRegisters(12, 0, 32, 28, 44);
        Checks.due("none", 0, x.results());
        x.fma(5, 0, 0, 0);
        Checks.due("2", 1, x.results());
        x.fma(5, 1, 1, 1);
        Checks.due("+NOUGHT", 2, x.results());
        x.fma(5, 2, 0, 2);
        Checks.due("-NOUGHT is one with it", 2, x.results());
        x.fma(5, 3, 1, 0);
        Checks.due("NAN", 3, x.results());
        x.fma(5, 3, 2, 0);
        Checks.due("the same NAN", 3, x.results());
        x.fma(5, 3, 0, 0);
        Checks.due("INF", 4, x.results());
        x.fma(5, 3, 4, 0);
        Checks.due("-INF", 5, x.results());
        x.set(1, 16);
        x.fma(5, 0, 1, 2);
        Checks.due("2 of another sum", 5, x.results());
        x.fma(5, 4, 1, 2);
        Checks.due("-2", 6, x.results());
        Checks.due("asked", 9, x.asked());
    }

    private static void resultsOfForms() {
        FusedUnit x = withRegisters(12, 0, 28);
        x.fma(5, 0, 0, 0);
        x.fma(5, 1, 1, 1);
        x.fma(5, 2, 1, 1);
        x.fma(5, 2, 0, 1);
        Checks.due("2, nought, NAN, INF", 4, x.results());
        x.use(1);
        x.fma(5, 0, 0, 0);
        Checks.due("2 of another form", 5, x.results());
        x.fma(5, 1, 1, 1);
        Checks.due("nought of any form", 5, x.results());
        x.fma(5, 2, 1, 1);
        Checks.due("NAN of any form", 5, x.results());
        x.fma(5, 2, 0, 1);
        Checks.due("INF of another form", 6, x.results());
        x.use(3);
        x.fma(5, 0, 0, 0);
        Checks.due("2 of a whole form", 7, x.results());
        x.set(2, 30);
        x.set(3, 32);
        x.set(4, 12);
        x.fma(5, 2, 4, 1);
        Checks.due("BITS of NAN are a number of a whole form", 8, x.results());
        x.fma(5, 3, 4, 3);
        Checks.due("-NOUGHT of it", 8, x.results());
        Checks.due("asked", 11, x.asked());
    }

    private static void undone() {
        FusedUnit x = withRegisters(12, 13, 14);
        x.fma(5, 0, 1, 2);
        x.fma(5, 0, 1, 2);
        x.fma(5, 0, 0, 0);
        x.mode(1);
        x.fma(5, 0, 0, 0);
        Checks.due("asked", 3, x.asked());
        Checks.due("results", 2, x.results());
        x.undo();
        Checks.due("asked", 2, x.asked());
        Checks.due("results", 2, x.results());
        x.undo();
        Checks.due("mode", 2, x.asked());
        x.undo();
        Checks.due("asked", 1, x.asked());
        Checks.due("results", 1, x.results());
        Checks.due("often", 2, x.often(0));
        Checks.due("often", -1, x.often(1));
        Checks.due("times", 0, x.times(12, 12, 12, 0));
        x.undo();
        Checks.due("asked", 1, x.asked());
        Checks.due("often", 1, x.often(0));
        Checks.due("results", 1, x.results());
        x.undo();
        Checks.due("asked", 0, x.asked());
        Checks.due("results", 0, x.results());
        x.fma(5, 0, 0, 0);
        Checks.due("asked", 1, x.asked());
        Checks.due("times", 1, x.times(12, 12, 12, 0));
        x.mark(0, false);
        x.fma(5, 0, 0, 2);
        x.mark(0, true);
        Checks.due("going back leaves what was asked", 2, x.asked());
        Checks.due("results", 2, x.results());
    }

    private static void many() {
        FusedUnit x = Telling.made("form z plain exp 8 frac 18; reg p; reg q;");
        int one = 127 << 18;
        x.set(0, one);
        for (int i = 0; i < 240; i++) {
            x.set(1, one + i);
            x.fma(1, 0, 0, 1);
        }
        Checks.due("asked", 240, x.asked());
        Checks.due("the last one", 1, x.often(239));
        Checks.due("none such", -1, x.often(240));
        Checks.due("halves by even", 121, x.results());
    }
}
