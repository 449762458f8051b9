/** Edges of what is done by hand: the sentences of term 2, and of promises 6 to 13 and 53, that name a boundary case. */
final class HandEdges {
    private HandEdges() {
    }

    static void run() {
        registers();
        changes();
        undone();
        judged();
        marks();
    }

    // ---- REGISTERS ----

    private static void registers() {
        Checks.edge(6, "BITS of a REGISTER; NONE: others, no FORM.", HandEdges::regOthers);
        Checks.edge(7, "SET: what it was; NONE: others, no FORM, no BITS of it.", HandEdges::setOthers);
        Checks.edge(7, "BITS are a number from 0 to 2 to the power of 1 + X + F, less 1", HandEdges::setExtremes);
        Checks.edge(8, "the FLAGS that it raises; NONE: others, no FORM.", HandEdges::fmaOthers);
        Checks.edge(8, "its FLAGS are raised (added to those there are)", HandEdges::flagsAdded);
        Checks.edge(8, "FMA of three REGISTERS into the first one", HandEdges::fmaIntoItself);
    }

    private static void regOthers() {
        for (int other : Edges.NO_REGISTERS) {
            Edges.refused("reg " + other, -1, x -> x.reg(other));
        }
        Edges.withoutForm("reg", -1, x -> x.reg(0));
        Checks.due("no registers", -1, Telling.made("form m sat exp 2 frac 1;").reg(0));
        FusedUnit six = Telling.made("form m sat exp 2 frac 1;reg a;reg b;reg c;reg d;reg e;reg f;");
        Checks.due("the sixth", 0, six.reg(5));
        Checks.due("a seventh", -1, six.reg(6));
    }

    private static void setOthers() {
        for (int other : Edges.NO_REGISTERS) {
            Edges.refused("set " + other, -1, x -> x.set(other, 1));
        }
        for (int bits : Edges.NO_BITS) {
            Edges.refused("bits " + bits, -1, x -> x.set(0, bits));
        }
        Edges.withoutForm("set", -1, x -> x.set(0, 0));
        FusedUnit x = Edges.busy();
        Checks.due("what it was", 13, x.set(0, 63));
        Checks.due("what it was", 63, x.set(0, 0));
    }

    private static void setExtremes() {
        int[][] forms = {{2, 1}, {8, 18}, {2, 18}, {8, 1}};
        String[] kinds = {"plain", "flush", "sat", "whole"};
        for (int[] form : forms) {
            int beyond = 1 << 1 + form[0] + form[1];
            for (String kind : kinds) {
                FusedUnit x = Telling.made("form m " + kind + " exp " + form[0] + " frac " + form[1] + ";reg p;");
                Checks.due("the greatest", 0, x.set(0, beyond - 1));
                Checks.due("it stands there", beyond - 1, x.reg(0));
                Checks.due("one more", -1, x.set(0, beyond));
                Checks.due("less than 0", -1, x.set(0, -1));
                Checks.due("it stays", beyond - 1, x.reg(0));
                Checks.due("the least", beyond - 1, x.set(0, 0));
            }
        }
        FusedUnit x = Edges.small(3);
        Checks.due("of the FORM in use", -1, x.set(0, 16));
        Checks.due("of the FORM in use", 0, x.set(0, 15));
    }

    private static void fmaOthers() {
        for (int other : Edges.NO_REGISTERS) {
            Edges.refused("into " + other, -1, x -> x.fma(other, 0, 0, 0));
            Edges.refused("a " + other, -1, x -> x.fma(0, other, 0, 0));
            Edges.refused("b " + other, -1, x -> x.fma(0, 0, other, 0));
            Edges.refused("c " + other, -1, x -> x.fma(0, 0, 0, other));
        }
        Edges.withoutForm("fma", -1, x -> x.fma(0, 0, 0, 0));
    }

    private static void flagsAdded() {
        FusedUnit x = Edges.small();
        x.set(0, 13);
        Checks.due("inexact", 8, x.fma(1, 0, 0, 2));
        x.set(0, 28);
        Checks.due("INF times NOUGHT", 1, x.fma(1, 0, 2, 2));
        Checks.due("both", 9, x.count(4));
        x.set(0, 27);
        Checks.due("beyond", 10, x.fma(1, 0, 0, 2));
        Checks.due("three", 11, x.count(4));
        x.set(0, 1);
        Checks.due("tiny", 12, x.fma(1, 0, 0, 2));
        Checks.due("all", 15, x.count(4));
        Checks.due("none", 0, x.fma(1, 2, 2, 2));
        Checks.due("all stay", 15, x.count(4));
    }

    private static void fmaIntoItself() {
        FusedUnit x = Edges.small();
        x.set(0, 14);
        Checks.due("1.5 * 1.5 + 1.5 is 3.75, a half", 8, x.fma(0, 0, 0, 0));
        Checks.due("4 by even", 20, x.reg(0));
        Checks.due("others stay", 0, x.reg(1));
        Checks.due("asked by the BITS that there were", 1, x.times(14, 14, 14, 0));
    }

    // ---- MODE, CLEAR, USE ----

    private static void changes() {
        Checks.edge(9, "MODE (0 to 5): the one ahead; NONE: others.", HandEdges::modeOthers);
        Checks.edge(10, "CLEAR: no FLAGS.", HandEdges::clearNothing);
        Checks.edge(11, "USE: the FLAGS that it raises; NONE: others.", HandEdges::useOthers);
        Checks.edge(11, "USE another FORM, or the same one", HandEdges::useSame);
        Checks.edge(11, "each REGISTER, by its number, is what it was, in that FORM: NAN THE NAN", HandEdges::useNan);
        Checks.edge(11, "INF INF", HandEdges::useInf);
        Checks.edge(11, "of a whole FORM NAN NOUGHT, +, INF GREATEST of its sign, FLAG 1 either way", HandEdges::useWhole);
        Checks.edge(11, "NOUGHT NOUGHT of its sign", HandEdges::useNoughts);
        Checks.edge(11, "else ROUNDED, FLAGS raised", HandEdges::useRounds);
    }

    private static void modeOthers() {
        for (int other : Edges.NO_MODES) {
            Edges.refused("mode " + other, -1, x -> x.mode(other));
            Edges.withoutForm("mode " + other, -1, x -> x.mode(other));
        }
        FusedUnit x = new FusedUnit();
        for (int mode = 0; mode < 6; mode++) {
            Checks.due("mode " + mode, Math.max(mode - 1, 0), x.mode(mode));
        }
        Checks.due("the last one, without a FORM", 5, x.count(3));
    }

    private static void clearNothing() {
        FusedUnit x = Edges.busy();
        Checks.due("what there was", 8, x.clear());
        Checks.due("none", 0, x.count(4));
        Checks.due("none ahead", 0, x.clear());
        Checks.due("registers stay", 13, x.reg(0));
        Checks.due("mode stays", 3, x.count(3));
        Checks.due("asked stays", 2, x.asked());
        Checks.due("seen stays", 1, x.count(6));
        Checks.due("without a FORM", 0, new FusedUnit().clear());
    }

    private static void useOthers() {
        int[] others = {-1, 4, 5, Edges.MIN, Edges.MAX};
        for (int other : others) {
            Edges.refused("use " + other, -1, x -> x.use(other));
        }
        Edges.withoutForm("use", -1, x -> x.use(0));
        Checks.due("one is told", -1, Telling.made("form m sat exp 2 frac 1;").use(1));
        Checks.due("without registers", 0, Telling.made("form m sat exp 2 frac 1;").use(0));
    }

    private static void useSame() {
        FusedUnit x = Edges.small();
        int[] bits = {29, 63, 61, 28, 60, 32, 3, 35, 27, 59, 1, 0};
        int[] due = {30, 30, 30, 28, 60, 32, 3, 35, 27, 59, 1, 0};
        for (int i = 0; i < bits.length; i++) {
            x.set(0, bits[i]);
            Checks.due("no flags", 0, x.use(0));
            Checks.due("of the same one " + bits[i], due[i], x.reg(0));
        }
        x.use(1);
        x.set(0, 3);
        Checks.due("a SUBNORMAL of a flush one is ROUNDED, too", 12, x.use(1));
        Checks.due("NOUGHT", 0, x.reg(0));
        x.set(0, 35);
        x.use(1);
        Checks.due("-NOUGHT", 32, x.reg(0));
        x.set(0, 4);
        Checks.due("the least NORMAL stays", 4, x.reg(0));
        x.clear();
        Checks.due("no flags", 0, x.use(1));
        Checks.due("it stays", 4, x.reg(0));
        x.use(3);
        x.set(0, 15);
        Checks.due("whole", 0, x.use(3));
        Checks.due("it stays", 15, x.reg(0));
    }

    private static void useNan() {
        int[] nans = {29, 30, 31, 61, 62, 63};
        for (int form = 0; form < 3; form++) {
            for (int nan : nans) {
                String[] kinds = {"plain", "flush", "sat"};
                FusedUnit x = Telling.made("form m plain exp 3 frac 2;form n " + kinds[form] + " exp 5 frac 6;reg p;reg q;reg r;");
                x.set(2, nan);
                Checks.due("no flags", 0, x.use(1));
                Checks.due("THE NAN", (31 << 6) + (1 << 5), x.reg(2));
                Checks.due("others are what they were", 0, x.reg(0));
            }
        }
        FusedUnit six = Telling.made("form m plain exp 3 frac 2;form n plain exp 5 frac 6;reg a;reg b;reg c;reg d;reg e;reg f;");
        for (int i = 0; i < 6; i++) {
            six.set(i, 8 + i);
        }
        Checks.due("exact", 0, six.use(1));
        for (int i = 0; i < 6; i++) {
            Checks.due("by its number " + i, 14 + i / 4 << 6 | (i % 4) << 4, six.reg(i));
        }
    }

    private static void useInf() {
        for (int form = 0; form < 3; form++) {
            FusedUnit x = Edges.small();
            x.set(0, 28);
            x.set(1, 60);
            Checks.due("no flags", 0, x.use(form));
            Checks.due("INF", 28, x.reg(0));
            Checks.due("-INF", 60, x.reg(1));
        }
    }

    private static void useWhole() {
        int[] bits = {28, 60, 29, 30, 31, 61, 62, 63};
        int[] due = {7, 15, 0, 0, 0, 0, 0, 0};
        for (int i = 0; i < bits.length; i++) {
            FusedUnit x = Edges.small();
            x.set(1, bits[i]);
            Checks.due("flags of " + bits[i], 1, x.use(3));
            Checks.due("flags", 1, x.count(4));
            Checks.due("whole " + bits[i], due[i], x.reg(1));
        }
        FusedUnit x = Telling.made("form v whole exp 3 frac 2; form w whole exp 2 frac 1; reg p;");
        x.set(0, 30);
        Checks.due("12 of a whole one is no NAN, but beyond", 10, x.use(1));
        Checks.due("GREATEST", 7, x.reg(0));
    }

    private static void useNoughts() {
        for (int form = 0; form < 4; form++) {
            for (int mode = 0; mode < 6; mode++) {
                FusedUnit x = Edges.small();
                x.mode(mode);
                x.set(1, 32);
                Checks.due("no flags", 0, x.use(form));
                Checks.due("+", 0, x.reg(0));
                Checks.due("-", form == 3 ? 8 : 32, x.reg(1));
            }
        }
    }

    private static void useRounds() {
        FusedUnit x = Edges.small();
        x.set(0, 27);
        x.set(1, 1);
        Checks.due("too large, and too small", 14, x.use(3));
        Checks.due("GREATEST", 7, x.reg(0));
        Checks.due("NOUGHT", 0, x.reg(1));
        FusedUnit y = Telling.made("form a plain exp 8 frac 18; form m plain exp 3 frac 2; reg p; reg q;");
        int fifteen = y.of(15);
        y.set(0, fifteen - 1);
        Checks.due("below the half of 14 and 16", 8, y.use(1));
        Checks.due("GREATEST", 27, y.reg(0));
        y.undo();
        y.set(0, fifteen);
        Checks.due("the half", 10, y.use(1));
        Checks.due("INF", 28, y.reg(0));
        y.undo();
        y.set(0, (127 - 5) << 18);
        y.set(1, 1 << 26 | (127 - 5) << 18 | 1);
        Checks.due("half of the least SUBNORMAL, and a bit more", 12, y.use(1));
        Checks.due("NOUGHT by even", 0, y.reg(0));
        Checks.due("the least SUBNORMAL", 33, y.reg(1));
        y.undo();
        y.set(0, ((127 - 2) << 18) - 1);
        y.set(1, 0);
        Checks.due("just below the least NORMAL is TINY", 12, y.use(1));
        Checks.due("the least NORMAL", 4, y.reg(0));
    }

    // ---- UNDO ----

    private static void undone() {
        Checks.edge(12, "UNDO: all of these, the last 16, one by one", HandEdges::lastSixteen);
        Checks.edge(12, "UNDO: true; false: nothing can be.", HandEdges::nothingToUndo);
        Checks.edge(12, "(what was ASKED by it is not, then, too)", HandEdges::undoneAsking);
        Checks.edge(12, "By USE, by UNDO, by going back to a MARK nothing is SEEN any more.", HandEdges::nothingSeen);
    }

    private static void lastSixteen() {
        for (int many = 1; many <= 40; many++) {
            FusedUnit x = Edges.small();
            for (int i = 1; i <= many; i++) {
                x.set(0, i);
            }
            int can = Math.min(many, 16);
            for (int i = 1; i <= can; i++) {
                Checks.due("can be undone", can - i + 1, x.count(7));
                Checks.due("undo " + i + " of " + many, true, x.undo());
                Checks.due("register", many - i, x.reg(0));
            }
            Checks.due("no more of " + many, false, x.undo());
            Checks.due("none", 0, x.count(7));
            Checks.due("register", many - can, x.reg(0));
        }
        allOfThese();
    }

    /** Each kind of change counts, also one that changes nothing. */
    private static void allOfThese() {
        FusedUnit x = Edges.small();
        x.set(0, 0);
        x.fma(1, 1, 1, 1);
        x.mode(0);
        x.clear();
        x.use(0);
        Checks.due("five", 5, x.count(7));
        for (int i = 0; i < 5; i++) {
            Checks.due("undo", true, x.undo());
        }
        Checks.due("no more", false, x.undo());
        for (int i = 0; i < 4; i++) {
            x.set(0, 7);
            x.fma(1, 0, 0, 0);
            x.mode(3);
            x.clear();
            x.use(3);
        }
        for (int i = 0; i < 16; i++) {
            Checks.due("undo", true, x.undo());
        }
        Checks.due("no more", false, x.undo());
        Checks.due("what there was behind the first four", 1, x.asked());
        Checks.due("form", 0, x.count(2));
        Checks.due("mode", 3, x.count(3));
        Checks.due("no flags", 0, x.count(4));
        Checks.due("register, 0.62890625", 9, x.reg(1));
    }

    private static void nothingToUndo() {
        Edges.withoutForm("undo", 0, x -> Edges.asLong(x.undo()));
        Edges.stays(Edges.small(), "undo", 0, x -> Edges.asLong(x.undo()));
        FusedUnit x = Edges.small();
        x.see(12, true);
        Checks.due("nothing", false, x.undo());
        Checks.due("seen stays", 1, x.count(6));
        x.set(0, 1);
        Checks.due("one", true, x.undo());
        Checks.due("nothing", false, x.undo());
        FusedUnit none = new FusedUnit();
        none.mode(5);
        Checks.due("without a FORM", true, none.undo());
        Checks.due("mode", 0, none.count(3));
    }

    private static void undoneAsking() {
        FusedUnit x = Edges.small();
        x.set(0, 13);
        x.fma(1, 0, 0, 0);
        x.fma(2, 0, 0, 0);
        Checks.due("one, twice", 2, x.often(0));
        x.undo();
        Checks.due("once", 1, x.often(0));
        x.undo();
        Checks.due("not asked", 0, x.asked());
        Checks.due("no results", 0, x.results());
        Checks.due("times", 0, x.times(13, 13, 13, 0));
        x.undo();
        Checks.due("a set takes nothing", 0, x.asked());
        x.set(0, 13);
        x.fma(1, 0, 0, 0);
        x.mode(1);
        x.undo();
        Checks.due("a mode takes nothing", 1, x.asked());
        for (int i = 0; i < 16; i++) {
            x.clear();
        }
        for (int i = 0; i < 20; i++) {
            x.undo();
        }
        Checks.due("what is too far back stays", 1, x.asked());
    }

    private static void nothingSeen() {
        FusedUnit x = Edges.busy();
        x.use(0);
        Checks.due("by USE of the same FORM", 0, x.count(6));
        FusedUnit y = Edges.busy();
        y.undo();
        Checks.due("by UNDO", 0, y.count(6));
        FusedUnit z = Edges.busy();
        z.mark(1, true);
        Checks.due("by going back", 0, z.count(6));
        Checks.due("all fit", 64, z.fit());
        FusedUnit stays = Edges.busy();
        stays.use(4);
        stays.mark(0, true);
        stays.mark(4, true);
        stays.mark(2, false);
        stays.set(0, 1);
        stays.fma(0, 0, 0, 0);
        stays.mode(2);
        stays.clear();
        Checks.due("by nothing else", 1, stays.count(6));
    }

    // ---- JUDGED ----

    private static void judged() {
        Checks.edge(13, "the first line (from 0) that can't be (fma, if there is no FORM)", HandEdges::judgedLine);
        Checks.edge(13, "what 0: a line (NONE: none), 1: FLAGS, 2: how many; -2: others.", HandEdges::judgedOthers);
        Checks.edge(13, "JUDGED: the PLAN from how it is now", HandEdges::judgedFromNow);
        Checks.edge(13, "how many lines raise a FLAG that was not there", HandEdges::judgedRaising);
    }

    private static void judgedLine() {
        for (int ahead = 0; ahead < 30; ahead++) {
            FusedUnit x = Telling.made("reg p;");
            Telling.plan(x, "clear;".repeat(ahead) + "fma p p p p;".repeat(Math.min(2, 30 - ahead)));
            Checks.due("line", ahead, x.judged(0));
            Checks.due("no flags", 0, x.judged(1));
            Checks.due("none raises", 0, x.judged(2));
        }
        FusedUnit x = Telling.made("reg p;");
        Telling.plan(x, "mode 5; clear;");
        Checks.due("without fma", -1, x.judged(0));
        FusedUnit y = Edges.small();
        Telling.plan(y, "fma p p p p; use w; fma p p p p;");
        Checks.due("with a FORM", -1, y.judged(0));
    }

    private static void judgedOthers() {
        int[] others = {-1, 3, 4, Edges.MIN, Edges.MAX};
        for (int other : others) {
            Edges.refused("judged " + other, -2, x -> x.judged(other));
            Edges.withoutForm("judged " + other, -2, x -> x.judged(other));
        }
        Edges.withoutForm("no PLAN, line", -1, x -> x.judged(0));
        Edges.withoutForm("no PLAN, flags", 0, x -> x.judged(1));
        Edges.withoutForm("no PLAN, how many", 0, x -> x.judged(2));
    }

    private static void judgedFromNow() {
        for (int what = 0; what < 3; what++) {
            int asked = what;
            int[] due = {-1, 8, 0};
            Edges.refused("what " + what, due[what], x -> x.judged(asked));
        }
        FusedUnit x = Edges.small();
        x.set(0, 13);
        Telling.plan(x, "fma p p p p;");
        Checks.due("1.25 * 1.25 + 1.25", 8, x.judged(1));
        x.set(0, 12);
        Checks.due("1 * 1 + 1", 0, x.judged(1));
        x.set(0, 27);
        Checks.due("beyond", 10, x.judged(1));
        Telling.plan(x, "fma p p p p; use w;");
        Checks.due("INF into a whole FORM", 11, x.judged(1));
        x.mode(1);
        Checks.due("by the MODE GREATEST", 10, x.judged(1));
    }

    private static void judgedRaising() {
        FusedUnit x = Edges.small();
        x.set(0, 13);
        x.set(1, 27);
        Telling.plan(x, "fma r p p p;");
        Checks.due("one", 1, x.judged(2));
        Telling.plan(x, "fma r p p p; fma r p p p;");
        Checks.due("it is there", 1, x.judged(2));
        Telling.plan(x, "fma r p p p; clear; fma r p p p;");
        Checks.due("it is cleared", 2, x.judged(2));
        Telling.plan(x, "fma r p p p; fma r q q q;");
        Checks.due("8, and 2 with 8", 2, x.judged(2));
        Telling.plan(x, "fma r q q q; fma r p p p; mode 3; clear;");
        Checks.due("2 with 8, and 8", 1, x.judged(2));
        x.fma(2, 0, 0, 0);
        Telling.plan(x, "fma r p p p;");
        Checks.due("it was there", 0, x.judged(2));
        Telling.plan(x, "fma r q q q;");
        Checks.due("2 was not", 1, x.judged(2));
        Telling.plan(x, "clear; fma r p p p;".repeat(15));
        Checks.due("15 of 30", 15, x.judged(2));
    }

    // ---- MARKS ----

    private static void marks() {
        Checks.edge(53, "false: none such, nothing is on it (back)", HandEdges::noMark);
        Checks.edge(53, "MARKS 0 to 3 hold the FORM, REGISTERS, MODE, FLAGS", HandEdges::marksHold);
        Checks.edge(53, "(nothing can be undone when one is gone back to; what was ASKED stays)", HandEdges::goneBack);
    }

    private static void noMark() {
        int[] others = {-1, 4, 5, Edges.MIN, Edges.MAX};
        for (int other : others) {
            Edges.refused("mark " + other, false, x -> Edges.asLong(x.mark(other, false)));
            Edges.refused("back to " + other, false, x -> Edges.asLong(x.mark(other, true)));
        }
        int[] empty = {0, 2, 3};
        for (int mark : empty) {
            Edges.refused("back to " + mark, false, x -> Edges.asLong(x.mark(mark, true)));
        }
        FusedUnit x = new FusedUnit();
        Checks.due("nothing is on it", false, x.mark(0, true));
        Checks.due("without a FORM", true, x.mark(0, false));
        Checks.due("without a FORM", true, x.mark(0, true));
        Telling.unit(x, Telling.SMALL);
        Checks.due("none after a UNIT", false, x.mark(0, true));
    }

    private static void marksHold() {
        for (int mark = 0; mark < 4; mark++) {
            FusedUnit x = Edges.busy();
            int held = mark;
            Edges.stays(x, "mark " + mark, 1, y -> Edges.asLong(y.mark(held, false)));
            x.clear();
            x.use(3);
            x.mode(1);
            for (int reg = 0; reg < 3; reg++) {
                x.set(reg, 9);
            }
            Checks.due("back", true, x.mark(mark, true));
            Checks.due("form", 0, x.count(2));
            Checks.due("mode", 3, x.count(3));
            Checks.due("flags", 8, x.count(4));
            Checks.due("first", 13, x.reg(0));
            Checks.due("second", 46, x.reg(1));
            Checks.due("third, 2.8125 up", 18, x.reg(2));
            Checks.due("plan", 2, x.count(5));
            Checks.due("tape", 3, x.count(8));
        }
        FusedUnit x = Edges.small();
        x.set(0, 1);
        x.mark(0, false);
        x.set(0, 2);
        x.mark(0, false);
        x.set(0, 3);
        x.mark(0, true);
        Checks.due("the last one that was laid", 2, x.reg(0));
        x.set(0, 4);
        Checks.due("again", true, x.mark(0, true));
        Checks.due("the same", 2, x.reg(0));
    }

    private static void goneBack() {
        FusedUnit x = Edges.busy();
        x.fma(0, 0, 0, 0);
        Checks.due("asked", 2, x.asked());
        int often = x.often(1);
        Checks.due("some can be undone", 6, x.count(7));
        Checks.due("back", true, x.mark(1, true));
        Checks.due("nothing can be", 0, x.count(7));
        Checks.due("nothing can be", false, x.undo());
        Checks.due("asked stays", 2, x.asked());
        Checks.due("so often", often, x.often(1));
        Checks.due("results stay", 2, x.results());
        x.set(0, 1);
        Checks.due("what comes behind can be", true, x.undo());
        Checks.due("to the MARK", 13, x.reg(0));
    }
}
