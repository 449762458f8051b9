/** Promises 6 to 13 and 53: what is done by hand, undone, judged and marked. */
final class HandTests {
    private HandTests() {
    }

    static void run() {
        Checks.test("promise 6: registers", HandTests::registers);
        Checks.test("promise 7: bits set", HandTests::set);
        Checks.test("promise 8: fma", HandTests::fma);
        Checks.test("promise 8: fma refuses", HandTests::fmaRefuses);
        Checks.test("promise 9: modes", HandTests::modes);
        Checks.test("promise 10: clear", HandTests::clear);
        Checks.test("promise 11: use turns registers", HandTests::use);
        Checks.test("promise 11: use of a whole form", HandTests::useWhole);
        Checks.test("promise 11: use of a flush form", HandTests::useFlush);
        Checks.test("promise 11: use refuses", HandTests::useRefuses);
        Checks.test("promise 11: use rounds by the mode", HandTests::useByMode);
        Checks.test("promise 12: each kind of change is undone", HandTests::undoEach);
        Checks.test("promise 12: the last 16 are undone", HandTests::undoSixteen);
        Checks.test("promise 12: what refuses is no change", HandTests::refusedIsNoChange);
        Checks.test("promise 13: judged", HandTests::judged);
        Checks.test("promise 13: judged without a form", HandTests::judgedWithoutForm);
        Checks.test("promise 13: judged uses forms and laws", HandTests::judgedUses);
        Checks.test("promise 53: marks", HandTests::marks);
        Checks.test("promise 53: marks hold all of it", HandTests::marksHold);
        Checks.test("promise 53: marks without a form", HandTests::marksWithoutForm);
    }

    private static FusedUnit small() {
        return Telling.made(Telling.SMALL);
    }

    private static void registers() {
        FusedUnit x = small();
        x.set(0, 13);
        x.set(2, 63);
        Checks.due("first", 13, x.reg(0));
        Checks.due("second", 0, x.reg(1));
        Checks.due("last", 63, x.reg(2));
        Checks.due("others", -1, x.reg(3));
        Checks.due("others", -1, x.reg(-1));
        Checks.due("others", -1, x.reg(Integer.MAX_VALUE));
        Checks.due("nothing is undone by it", 2, x.count(7));
    }

    private static void set() {
        FusedUnit x = small();
        Checks.due("was", 0, x.set(1, 13));
        Checks.due("was", 13, x.set(1, 63));
        Checks.due("was", 63, x.set(1, 0));
        Checks.due("too large", -1, x.set(1, 64));
        Checks.due("less than 0", -1, x.set(1, -1));
        Checks.due("other register", -1, x.set(3, 1));
        Checks.due("other register", -1, x.set(-1, 1));
        Checks.due("bits stay", 0, x.reg(1));
        Checks.due("no flags", 0, x.count(4));
        Checks.due("changes", 3, x.count(7));
        x.use(3);
        Checks.due("of the form in use", -1, x.set(0, 16));
        Checks.due("of the form in use", 0, x.set(0, 15));
        FusedUnit large = Telling.made(Telling.LARGE);
        Checks.due("large", 0, large.set(0, (1 << 27) - 1));
        Checks.due("too large", -1, large.set(0, 1 << 27));
    }

    private static void fma() {
        FusedUnit x = small();
        x.set(0, 13);
        x.set(1, 14);
        x.set(2, 46);
        Checks.due("inexact", 8, x.fma(2, 0, 0, 0));
        Checks.due("1.25 * 1.25 + 1.25 is nearly 3", 18, x.reg(2));
        Checks.due("factors stay", 13, x.reg(0));
        x.set(0, 12);
        Checks.due("exact", 0, x.fma(0, 0, 0, 0));
        Checks.due("1 * 1 + 1", 16, x.reg(0));
        Checks.due("2 * 1.5 + 3", 0, x.fma(2, 0, 1, 2));
        Checks.due("6", 22, x.reg(2));
        Checks.due("flags stay", 8, x.count(4));
        x.set(0, 28);
        x.set(1, 0);
        Checks.due("INF times NOUGHT", 1, x.fma(2, 0, 1, 2));
        Checks.due("THE NAN", 30, x.reg(2));
        Checks.due("flags are added", 9, x.count(4));
        x.set(0, 27);
        Checks.due("beyond", 10, x.fma(0, 0, 0, 1));
        Checks.due("INF", 28, x.reg(0));
        Checks.due("flags are added", 11, x.count(4));
        x.mode(1);
        x.set(0, 27);
        x.fma(0, 0, 0, 1);
        Checks.due("by the mode", 27, x.reg(0));
        x.set(0, 1);
        x.set(1, 4);
        Checks.due("underflow", 12, x.fma(1, 0, 0, 0));
        Checks.due("all flags", 15, x.count(4));
    }

    private static void fmaRefuses() {
        FusedUnit x = small();
        int[] others = {-1, 3, 4, Integer.MIN_VALUE, Integer.MAX_VALUE};
        for (int other : others) {
            Checks.due("into " + other, -1, x.fma(other, 0, 0, 0));
            Checks.due("a " + other, -1, x.fma(0, other, 0, 0));
            Checks.due("b " + other, -1, x.fma(0, 0, other, 0));
            Checks.due("c " + other, -1, x.fma(0, 0, 0, other));
        }
        Checks.due("nothing asked", 0, x.asked());
        Checks.due("nothing undone", 0, x.count(7));
    }

    private static void modes() {
        FusedUnit x = small();
        int ahead = 0;
        int[] modes = {1, 2, 3, 4, 5, 0, 0, 3};
        for (int mode : modes) {
            Checks.due("mode " + mode, ahead, x.mode(mode));
            Checks.due("count", mode, x.count(3));
            ahead = mode;
        }
        Checks.due("others", -1, x.mode(6));
        Checks.due("others", -1, x.mode(-1));
        Checks.due("stays", 3, x.count(3));
        Checks.due("changes", 8, x.count(7));
        Checks.due("9 goes up", 25, x.of(9));
        Checks.due("without a form", 0, new FusedUnit().mode(5));
    }

    private static void clear() {
        FusedUnit x = small();
        Checks.due("no flags", 0, x.clear());
        x.set(0, 13);
        x.fma(1, 0, 0, 0);
        Checks.due("flags", 8, x.clear());
        Checks.due("none", 0, x.count(4));
        Checks.due("none", 0, x.clear());
        Checks.due("registers stay", 13, x.reg(0));
        Checks.due("changes", 5, x.count(7));
        Checks.due("without a form", 0, new FusedUnit().clear());
    }

    private static void use() {
        FusedUnit x = Telling.made("form a plain exp 5 frac 6; form m plain exp 3 frac 2; form s sat exp 4 frac 1; reg p; reg q;"
                + "reg r; reg v; reg t; reg u;");
        int one = 15 << 6;
        x.set(0, one + 16);
        x.set(1, one + 24);
        x.set(2, (31 << 6) + 1);
        x.set(3, (31 << 6) + 2048);
        x.set(4, 2048);
        x.set(5, 3 << 6);
        Checks.due("flags", 12 | 8, x.use(1));
        Checks.due("1.25", 13, x.reg(0));
        Checks.due("1.375, even", 14, x.reg(1));
        Checks.due("THE NAN", 30, x.reg(2));
        Checks.due("-INF", 60, x.reg(3));
        Checks.due("-NOUGHT", 32, x.reg(4));
        Checks.due("too small", 0, x.reg(5));
        Checks.due("form in use", 1, x.count(2));
        Checks.due("flags", 12, x.count(4));
        x.clear();
        Checks.due("the same one", 0, x.use(1));
        Checks.due("1.25", 13, x.reg(0));
        x.set(0, 63);
        Checks.due("NAN", 0, x.use(1));
        Checks.due("THE NAN", 30, x.reg(0));
        Checks.due("to the sat one", 0, x.use(2));
        Checks.due("NAN", 31, x.reg(0));
        Checks.due("-INF", 32 + 30, x.reg(3));
        x.set(0, 29);
        Checks.due("192 is too much", 10, x.use(1) & 10);
        Checks.due("INF", 28, x.reg(0));
        x.set(0, 27);
        x.clear();
        x.use(2);
        Checks.due("14 is 12, inexact, or 16", 22, x.reg(0));
    }

    private static void useWhole() {
        FusedUnit x = small();
        x.set(0, 62);
        x.set(1, 60);
        x.set(2, 28);
        Checks.due("flag 1", 1, x.use(3));
        Checks.due("NAN", 0, x.reg(0));
        Checks.due("-INF", 15, x.reg(1));
        Checks.due("INF", 7, x.reg(2));
        Checks.due("flags", 1, x.count(4));
        x.undo();
        x.set(0, 32);
        x.set(1, 27);
        x.set(2, 59);
        Checks.due("14 is too much", 10, x.use(3));
        Checks.due("-NOUGHT", 8, x.reg(0));
        Checks.due("GREATEST", 7, x.reg(1));
        Checks.due("-GREATEST", 15, x.reg(2));
        Checks.due("back", 0, x.use(0));
        Checks.due("6", 22, x.reg(1));
        Checks.due("-6", 54, x.reg(2));
    }

    private static void useFlush() {
        FusedUnit x = small();
        x.set(0, 3);
        x.set(1, 35);
        x.set(2, 4);
        Checks.due("flags", 12, x.use(1));
        Checks.due("NOUGHT", 0, x.reg(0));
        Checks.due("-NOUGHT", 32, x.reg(1));
        Checks.due("least NORMAL", 4, x.reg(2));
        x.clear();
        x.set(0, 3);
        Checks.due("the same form", 12, x.use(1));
        Checks.due("NOUGHT", 0, x.reg(0));
        x.clear();
        x.set(0, 3);
        Checks.due("as it is into another one", 0, x.use(0));
        Checks.due("SUBNORMAL", 3, x.reg(0));
    }

    private static void useRefuses() {
        FusedUnit x = small();
        int[] others = {-1, 4, Integer.MIN_VALUE, Integer.MAX_VALUE};
        for (int other : others) {
            Checks.due("use " + other, -1, x.use(other));
        }
        Checks.due("form in use", 0, x.count(2));
        Checks.due("nothing undone", 0, x.count(7));
        x.see(12, true);
        x.use(7);
        Checks.due("seen stays", 1, x.count(6));
        x.use(0);
        Checks.due("nothing is seen any more", 0, x.count(6));
        Checks.due("one change", 1, x.count(7));
    }

    private static void useByMode() {
        int[] due = {14, 13, 13, 14, 14, 13};
        int[] dueMinus = {46, 45, 46, 45, 46, 46};
        for (int mode = 0; mode < 6; mode++) {
            FusedUnit x = Telling.made("own minus; form a plain exp 5 frac 6; form m plain exp 3 frac 2; reg p; reg q;");
            x.set(0, (15 << 6) + 24);
            x.set(1, (15 << 6) + 24 + 2048);
            x.mode(mode);
            Checks.due("flags", 8, x.use(1));
            Checks.due("1.375 by mode " + mode, due[mode], x.reg(0));
            Checks.due("-1.375 by mode " + mode, dueMinus[mode], x.reg(1));
        }
    }

    private static void undoEach() {
        FusedUnit x = small();
        x.set(0, 13);
        x.fma(1, 0, 0, 0);
        x.mode(3);
        x.clear();
        x.use(3);
        Checks.due("five changes", 5, x.count(7));
        x.see(1, true);
        Checks.due("use", true, x.undo());
        Checks.due("nothing is seen any more", 0, x.count(6));
        Checks.due("form", 0, x.count(2));
        Checks.due("register", 18, x.reg(1));
        Checks.due("no flags", 0, x.count(4));
        Checks.due("clear", true, x.undo());
        Checks.due("flags", 8, x.count(4));
        Checks.due("mode", true, x.undo());
        Checks.due("mode", 0, x.count(3));
        Checks.due("asked", 1, x.asked());
        Checks.due("fma", true, x.undo());
        Checks.due("not asked", 0, x.asked());
        Checks.due("register", 0, x.reg(1));
        Checks.due("flags", 0, x.count(4));
        Checks.due("set", true, x.undo());
        Checks.due("register", 0, x.reg(0));
        x.see(1, true);
        Checks.due("nothing", false, x.undo());
        Checks.due("seen stays", 1, x.count(6));
    }

    private static void undoSixteen() {
        FusedUnit x = small();
        for (int i = 1; i <= 40; i++) {
            x.set(0, i);
            Checks.due("changes", Math.min(i, 16), x.count(7));
        }
        for (int i = 39; i >= 24; i--) {
            Checks.due("undo", true, x.undo());
            Checks.due("register", i, x.reg(0));
            Checks.due("changes", i - 24, x.count(7));
        }
        Checks.due("no more", false, x.undo());
        Checks.due("register", 24, x.reg(0));
        x.set(0, 50);
        x.set(0, 51);
        Checks.due("undo", true, x.undo());
        Checks.due("register", 50, x.reg(0));
        Checks.due("undo", true, x.undo());
        Checks.due("register", 24, x.reg(0));
        Checks.due("no more", false, x.undo());
    }

    private static void refusedIsNoChange() {
        FusedUnit x = small();
        x.set(0, 64);
        x.fma(0, 0, 0, 3);
        x.mode(6);
        x.use(4);
        x.sum(1, 1, 1, 1);
        x.plans(1, 1, 0);
        x.mark(0, false);
        x.see(1, true);
        Checks.due("no change", 0, x.count(7));
        Checks.due("undo", false, x.undo());
    }

    private static void judged() {
        FusedUnit x = small();
        x.set(0, 13);
        x.set(1, 14);
        Checks.due("no plan", 0, x.judged(1));
        Telling.plan(x, "fma p p p p; fma q p p p; clear; mode 1; fma q p p p; fma r q q q; fma r q q r; use w;");
        Checks.due("all can be", -1, x.judged(0));
        Checks.due("flags", 10, x.judged(1));
        Checks.due("lines that raise", 2, x.judged(2));
        Checks.due("others", -2, x.judged(3));
        Checks.due("others", -2, x.judged(-1));
        Checks.due("register stays", 13, x.reg(0));
        Checks.due("mode stays", 0, x.count(3));
        Checks.due("flags stay", 0, x.count(4));
        Checks.due("form stays", 0, x.count(2));
        Checks.due("nothing asked", 0, x.asked());
        Checks.due("changes", 2, x.count(7));
        Telling.plan(x, "fma r p p p;");
        Checks.due("raises", 1, x.judged(2));
        x.fma(2, 0, 0, 0);
        Checks.due("it was there", 0, x.judged(2));
        Checks.due("flags", 8, x.judged(1));
        Telling.plan(x, "clear;");
        Checks.due("cleared", 0, x.judged(1));
    }

    private static void judgedWithoutForm() {
        FusedUnit x = Telling.made("reg p; reg q;");
        Telling.plan(x, "mode 3; clear; fma p p p q; mode 2; fma p p p p;");
        Checks.due("the first one", 2, x.judged(0));
        Checks.due("flags", 0, x.judged(1));
        Checks.due("lines", 0, x.judged(2));
        Telling.plan(x, "mode 3; clear;");
        Checks.due("all can be", -1, x.judged(0));
        Telling.plan(x, "fma p p p p;");
        Checks.due("line 0", 0, x.judged(0));
        FusedUnit y = small();
        Telling.plan(y, "mode 3; clear; fma p p p q;");
        Checks.due("with a form", -1, y.judged(0));
    }

    private static void judgedUses() {
        FusedUnit x = Telling.made("own 1; form m plain exp 3 frac 2; form w whole exp 3 frac 2; reg p; reg q;");
        x.set(0, 28);
        x.set(1, 13);
        Telling.plan(x, "use w;");
        Checks.due("INF in a whole form", 1, x.judged(1));
        Telling.plan(x, "use w; mode 5; fma q q q q;");
        Checks.due("flags", 9, x.judged(1));
        Checks.due("lines", 2, x.judged(2));
        x.set(0, 0);
        x.set(1, 27);
        Telling.plan(x, "mode 5; fma p q q p;");
        Checks.due("beyond", 10, x.judged(1));
        Telling.plan(x, "mode 5; fma p q q p; fma q p q p; use w;");
        Checks.due("INF by the law, so NAN or GREATEST", 11, x.judged(1));
        Telling.plan(x, "mode 1; fma p q q p; use w;");
        Checks.due("GREATEST by mode 1", 10, x.judged(1));
        Telling.plan(x, "use m; use w; use m; use w; fma p q q p;");
        Checks.due("196 is too much for it", 10, x.judged(1));
    }

    private static void marks() {
        FusedUnit x = small();
        int[] others = {-1, 4, Integer.MAX_VALUE, Integer.MIN_VALUE};
        for (int other : others) {
            Checks.due("mark " + other, false, x.mark(other, false));
            Checks.due("back to " + other, false, x.mark(other, true));
        }
        for (int mark = 0; mark < 4; mark++) {
            Checks.due("nothing is on " + mark, false, x.mark(mark, true));
            x.set(0, 10 + mark);
            Checks.due("laid " + mark, true, x.mark(mark, false));
        }
        x.set(0, 1);
        for (int mark = 3; mark >= 0; mark--) {
            Checks.due("back to " + mark, true, x.mark(mark, true));
            Checks.due("register", 10 + mark, x.reg(0));
        }
        x.set(0, 40);
        x.mark(2, false);
        x.set(0, 41);
        Checks.due("laid anew", true, x.mark(2, true));
        Checks.due("register", 40, x.reg(0));
        Checks.due("again", true, x.mark(2, true));
    }

    private static void marksHold() {
        FusedUnit x = small();
        x.set(0, 13);
        x.set(2, 28);
        x.mode(3);
        x.fma(1, 0, 0, 0);
        Checks.due("laid", true, x.mark(3, false));
        Checks.due("no change", 4, x.count(7));
        x.use(3);
        x.fma(0, 1, 1, 1);
        x.mode(1);
        x.set(2, 1);
        x.clear();
        x.see(1, true);
        Checks.due("back", true, x.mark(3, true));
        int[] due = {4, 3, 0, 3, 8, 0, 0, 0, 0};
        for (int what = 0; what < due.length; what++) {
            Checks.due("count " + what, due[what], x.count(what));
        }
        Checks.due("register 0", 13, x.reg(0));
        Checks.due("register 1", 18, x.reg(1));
        Checks.due("register 2", 28, x.reg(2));
        Checks.due("nothing to undo", false, x.undo());
        Checks.due("asked stays", 2, x.asked());
        x.set(0, 1);
        Checks.due("a mark that is laid leaves what can be undone", true, x.mark(0, false));
        Checks.due("undo", true, x.undo());
        x.see(1, true);
        Checks.due("a mark that is none", false, x.mark(1, true));
        Checks.due("seen stays", 1, x.count(6));
    }

    private static void marksWithoutForm() {
        FusedUnit x = new FusedUnit();
        x.mode(4);
        Checks.due("laid", true, x.mark(0, false));
        x.mode(2);
        Checks.due("back", true, x.mark(0, true));
        Checks.due("mode", 4, x.count(3));
        Checks.due("form", -1, x.count(2));
        Checks.due("changes", 0, x.count(7));
    }
}
