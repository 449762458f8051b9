/** Edges of small FORMS: the sentences of term 3, and of promises 39 to 44 and 49 to 51, that name a boundary case. */
final class SmallEdges {
    private static final String[] KINDS = {"plain", "flush", "sat", "whole"};

    private SmallEdges() {
    }

    static void run() {
        Checks.edge(39, "EXACTS; NONE: others, no FORM, it is too large.", () -> ofTwo("exacts", -1, FusedUnit::exacts));
        Checks.edge(40, "SWALLOWS; NONE: others, no FORM, it is too large.", () -> ofTwo("swallows", -1, FusedUnit::swallows));
        Checks.edge(41, "RAISES; NONE: others, no FORM, it is too large.", () -> ofTwo("raises", -1, (x, a, b) -> x.raises(a, b, 8)));
        Checks.edge(41, "RAISES of two and FLAGS (1 to 15)", SmallEdges::raisesFlags);
        Checks.edge(42, "TIES; NONE: others, no FORM, it is too large.", () -> ofTwo("ties", -1, FusedUnit::ties));
        Checks.edge(43, "ROOT; NONE: others, no FORM, it is too large, none.", () -> ofOne("root", FusedUnit::root));
        Checks.edge(44, "INVERSE; NONE: others, no FORM, it is too large, none.", () -> ofOne("inverse", FusedUnit::inverse));
        counts();
        Checks.edge(43, "of x from +NOUGHT to INF (GREATEST) the greatest", SmallEdges::rootEnds);
        Checks.edge(43, "is not NAN, and at most 0", SmallEdges::rootNone);
        Checks.edge(44, "of all x the least (by BITS) for which the SUM of x, BITS, -1 is not NAN, and the nearest to 0", SmallEdges::inverseLeast);
        seen();
    }

    private interface OfTwo {
        int call(FusedUnit x, int a, int b);
    }

    private interface OfOne {
        int call(FusedUnit x, int bits);
    }

    /** Each way to split 9 and 10 into exponent and fraction. */
    private static void eachSplit(String name, OfOne any) {
        for (int kind = 0; kind < 4; kind++) {
            for (int exp = 2; exp <= 8; exp++) {
                for (int sum = 9; sum <= 10; sum++) {
                    FusedUnit x = Telling.made("form m " + KINDS[kind] + " exp " + exp + " frac " + (sum - exp) + ";");
                    Checks.due(name + " exp " + exp + " of " + sum, sum == 9, any.call(x, x.form(0, 3) << sum - exp) != -1);
                }
            }
        }
        Checks.due(name + " of the largest", -1, any.call(Telling.made("form m plain exp 8 frac 18;"), 0));
    }

    private static void ofTwo(String name, long want, OfTwo of) {
        for (int bits : Edges.NO_BITS) {
            Edges.refused(name + " a " + bits, want, x -> of.call(x, bits, 12));
            Edges.refused(name + " b " + bits, want, x -> of.call(x, 12, bits));
            Edges.refused(name + " b " + bits, want, x -> of.call(x, 30, bits));
        }
        Edges.withoutForm(name, want, x -> of.call(x, 0, 0));
        Checks.due(name + " of a whole one", want, of.call(Edges.small(3), 16, 2));
        Checks.due(name + " of a whole one", want, of.call(Edges.small(3), 2, 16));
        eachSplit(name, (x, bits) -> of.call(x, bits, bits));
    }

    private static void ofOne(String name, OfOne of) {
        for (int bits : Edges.NO_BITS) {
            Edges.refused(name + " " + bits, -1, x -> of.call(x, bits));
        }
        Edges.withoutForm(name, -1, x -> of.call(x, 0));
        Checks.due(name + " of a whole one", -1, of.call(Edges.small(3), 16));
        eachSplit(name, of);
        int[] nans = {29, 30, 31, 61, 62, 63};
        for (int nan : nans) {
            Edges.refused(name + " of NAN: none", -1, x -> of.call(x, nan));
        }
    }

    private static void raisesFlags() {
        int[] others = {0, -1, 16, 17, 24, Edges.MIN, Edges.MAX, 8 - 16};
        for (int flags : others) {
            Edges.refused("flags " + flags, -1, x -> x.raises(12, 12, flags));
        }
        int[] due = new int[16];
        Oracle form = new Oracle(0, 3, 2);
        for (int c = 0; c < 64; c++) {
            int raised = form.flags(27, 12, c, 0);
            for (int flags = 1; flags < 16; flags++) {
                due[flags] += (raised & flags) == flags ? 1 : 0;
            }
        }
        FusedUnit x = Edges.small();
        for (int flags = 1; flags < 16; flags++) {
            Checks.due("flags " + flags, due[flags], x.raises(27, 12, flags));
        }
        Checks.due("15 at most", 0, x.raises(27, 12, 15));
        Checks.due("INF against -INF raises 1", 1, x.raises(28, 12, 1));
        Checks.due("but not all of 9", 0, x.raises(28, 12, 9));
    }

    // ---- how many addends ----

    private static void counts() {
        Checks.edge(39, "EXACTS of two: for how many BITS as C the SUM raises no FLAG 8", SmallEdges::exactsEnds);
        Checks.edge(40, "SWALLOWS: for how many it is C again (by its BITS)", SmallEdges::swallowsEnds);
        Checks.edge(41, "for how many the SUM raises all of these", SmallEdges::raisesEnds);
        Checks.edge(42, "TIES of two: for how many as C it is a HALF.", SmallEdges::tiesEnds);
    }

    private static void exactsEnds() {
        FusedUnit x = Edges.small();
        Checks.due("all", 64, x.exacts(29, 0));
        Checks.due("all", 64, x.exacts(0, 0));
        Checks.due("all, by FLAG 1", 64, x.exacts(28, 0));
        Checks.due("INFS and NANS alone", 8, x.exacts(27, 27));
        Checks.due("INFS and NANS alone", 8, x.exacts(1, 1));
        Checks.due("none of a whole FORM", 0, Edges.small(3).exacts(7, 7));
        Checks.due("all of a whole FORM", 16, Edges.small(3).exacts(0, 7));
        FusedUnit least = Telling.made("form m plain exp 2 frac 1;");
        Checks.due("all of the least FORM", 16, least.exacts(0, 0));
        FusedUnit most = Telling.made("form m plain exp 8 frac 1;");
        Checks.due("all of 1,024", 1024, most.exacts(0, 0));
    }

    private static void swallowsEnds() {
        FusedUnit x = Edges.small();
        Checks.due("THE NAN alone", 1, x.swallows(63, 63));
        Checks.due("INF and THE NAN", 2, x.swallows(28, 12));
        Checks.due("THE NAN by FLAG 1", 1, x.swallows(28, 0));
        Checks.due("+NOUGHT: all but -NOUGHT and 5 NANS", 58, x.swallows(0, 0));
        Checks.due("-NOUGHT: all but 5 NANS", 59, x.swallows(32, 12));
        x.mode(2);
        Checks.due("+NOUGHT, down: -NOUGHT stays, too", 59, x.swallows(0, 0));
        Checks.due("-NOUGHT, down: +NOUGHT does not", 58, x.swallows(32, 12));
        x.mode(0);
        x.use(1);
        Checks.due("flush: the 6 SUBNORMALS are lost", 52, x.swallows(0, 0));
        Checks.due("whole: all but -NOUGHT", 15, Edges.small(3).swallows(0, 0));
    }

    private static void raisesEnds() {
        FusedUnit x = Edges.small();
        Checks.due("none", 0, x.raises(29, 0, 1));
        Checks.due("all but 6 NANS", 58, x.raises(28, 0, 1));
        Checks.due("all but INFS and NANS", 56, x.raises(27, 27, 10));
        Checks.due("2 never comes with 4", 0, x.raises(27, 27, 6));
        x.use(1);
        Checks.due("flush: TINY to NOUGHTS, to SUBNORMALS and to the least NORMAL with -", 9, x.raises(4, 4, 12));
        Checks.due("whole: all", 16, Edges.small(3).raises(7, 7, 10));
    }

    private static void tiesEnds() {
        FusedUnit x = Edges.small();
        Checks.due("none of NAN", 0, x.ties(29, 0));
        Checks.due("none of INF", 0, x.ties(28, 12));
        Checks.due("none of NOUGHT", 0, x.ties(0, 0));
        Oracle form = new Oracle(0, 3, 2);
        int[][] pairs = {{14, 14}, {13, 14}, {27, 12}, {8, 1}, {1, 1}, {12, 12}, {46, 14}};
        for (int[] pair : pairs) {
            for (int mode = 0; mode < 6; mode++) {
                int due = 0;
                for (int c = 0; c < 64; c++) {
                    due += form.half(pair[0], pair[1], c, mode) ? 1 : 0;
                }
                x.mode(mode);
                Checks.due("ties of " + pair[0] + " " + pair[1], due, x.ties(pair[0], pair[1]));
            }
        }
    }

    // ---- ROOT, INVERSE ----

    private static void rootEnds() {
        FusedUnit x = Edges.small();
        Checks.due("of INF all but INF", 27, x.root(28));
        Checks.due("of NOUGHT", 2, x.root(0));
        Checks.due("of -NOUGHT", 2, x.root(32));
        x.mode(3);
        Checks.due("of NOUGHT, up: NOUGHT alone", 0, x.root(0));
        x.mode(1);
        Checks.due("of NOUGHT, cut", 3, x.root(0));
        Checks.due("of GREATEST, cut", 19, x.root(27));
        FusedUnit sat = Edges.small(2);
        Checks.due("sat: of INF all but INF", 27, sat.root(28));
        FusedUnit whole = Telling.made("form w whole exp 2 frac 2;");
        Checks.due("whole: of 7 it is 2.5", 9, whole.root(15));
        FusedUnit flush = Edges.small(1);
        Checks.due("flush: what is TINY is NOUGHT", 7, flush.root(0));
        FusedUnit down = Edges.small(3);
        down.mode(1);
        Checks.due("whole, cut: of 6 it is 2", 4, down.root(7));
    }

    private static void rootNone() {
        FusedUnit x = Edges.small();
        Checks.due("of -1", -1, x.root(44));
        Checks.due("of -INF", -1, x.root(60));
        Checks.due("of the least with -", -1, x.root(33));
        Checks.due("of 0 NOUGHT is at most 0", 2, x.root(32));
        Checks.due("of INF: INF is NAN", 27, x.root(28));
        x.use(1);
        Checks.due("flush: of a SUBNORMAL with - as of -NOUGHT", 7, x.root(33));
        x.use(3);
        Checks.due("whole: of -6", -1, x.root(15));
    }

    private static void inverseLeast() {
        FusedUnit x = Edges.small();
        Checks.due("of 1", 12, x.inverse(12));
        Checks.due("of -1", 44, x.inverse(44));
        Checks.due("of NOUGHT all are -1: the least", 0, x.inverse(0));
        Checks.due("of INF all but NOUGHTS are INF: the least", 1, x.inverse(28));
        Checks.due("of -INF", 1, x.inverse(60));
        Checks.due("of GREATEST", 1, x.inverse(27));
        Checks.due("of the least SUBNORMAL", 27, x.inverse(1));
        x.use(1);
        Checks.due("flush: of a SUBNORMAL as of NOUGHT", 0, x.inverse(3));
        Checks.due("flush: of INF", 4, x.inverse(28));
        x.use(3);
        Checks.due("whole: of 6", inverseOf(new Oracle(3, 2, 1), 7), x.inverse(7));
        for (int bits = 0; bits < 64; bits++) {
            FusedUnit y = Edges.small();
            int due = bits % 32 > 28 ? -1 : inverseOf(new Oracle(0, 3, 2), bits);
            Checks.due("inverse of " + bits, due, y.inverse(bits));
        }
    }

    private static int inverseOf(Oracle form, int bits) {
        int least = -1;
        int nearest = Edges.MAX;
        for (int x = 0; x < form.many(); x++) {
            int told = form.sum(x, bits, form.turned(form.one()), 0);
            if (!form.isNan(told) && form.size(told) < nearest) {
                nearest = form.size(told);
                least = x;
            }
        }
        return least;
    }

    // ---- SEEN ----

    private static void seen() {
        Checks.edge(49, "SEEN: true; false: others, no FORM, it is too large, 8 there are.", SmallEdges::seeOthers);
        Checks.edge(49, "or is not; 8 at most", SmallEdges::see8);
        Checks.edge(50, "FIT; NONE: no FORM, it is too large.", SmallEdges::fitOthers);
        Checks.edge(50, "is at least 0 (not NAN), or is not", SmallEdges::fitNought);
        Checks.edge(50, "by which all SEEN is so, as FORM and MODE are when it is asked", SmallEdges::fitByMode);
        Checks.edge(51, "LEAST; NONE: none fits, no FORM, it is too large.", SmallEdges::leastOthers);
        Checks.edge(51, "LEAST: the least of these.", SmallEdges::leastEnds);
    }

    private static void seeOthers() {
        for (int bits : Edges.NO_BITS) {
            Edges.refused("see " + bits, false, x -> Edges.asLong(x.see(bits, true)));
            Edges.refused("see " + bits, false, x -> Edges.asLong(x.see(bits, false)));
        }
        Edges.withoutForm("see", 0, x -> Edges.asLong(x.see(0, true)));
        Checks.due("BITS of the FORM in use", false, Edges.small(3).see(16, true));
        Checks.due("BITS of the FORM in use", true, Edges.small(3).see(15, true));
        eachSplit("see", (x, bits) -> x.see(bits, true) ? 1 : -1);
        Checks.due("any BITS, NAN, too", true, Edges.small().see(63, true));
    }

    private static void see8() {
        FusedUnit x = Edges.small();
        for (int i = 0; i < 8; i++) {
            Checks.due("see " + i, true, x.see(12, true));
        }
        Checks.due("a ninth one", false, x.see(44, true));
        Checks.due("8 there are", 8, x.count(6));
        Checks.due("the ninth one does not count", 58, x.fit());
        x.use(0);
        Checks.due("nothing is seen any more", true, x.see(44, true));
        Checks.due("one", 1, x.count(6));
        FusedUnit last = Edges.small();
        for (int i = 0; i < 7; i++) {
            last.see(12, true);
        }
        Checks.due("the eighth", true, last.see(44, true));
        Checks.due("it counts", 34, last.fit());
    }

    private static void fitOthers() {
        Edges.withoutForm("fit", -1, FusedUnit::fit);
        eachSplit("fit", (x, bits) -> x.fit());
        Checks.due("nothing seen: all", 64, Edges.small().fit());
        Checks.due("nothing seen: all", 1024, Telling.made("form m plain exp 8 frac 1;").fit());
        Checks.due("nothing seen: all", 16, Telling.made("form m plain exp 2 frac 1;").fit());
        FusedUnit x = Edges.small();
        x.see(12, true);
        x.see(12, false);
        Checks.due("none", 0, x.fit());
    }

    private static void fitNought() {
        FusedUnit x = Edges.small();
        x.see(32, true);
        Checks.due("NOUGHTS are at least 0, NANS are not", 58, x.fit());
        FusedUnit y = Edges.small();
        y.see(32, false);
        Checks.due("NANS alone", 6, y.fit());
        FusedUnit z = Edges.small();
        z.see(30, false);
        Checks.due("NAN is not at least 0", 64, z.fit());
        FusedUnit minus = Edges.small();
        minus.mode(2);
        minus.see(44, true);
        Checks.due("-NOUGHT of 1 times 1 less 1 is at least 0", 34, minus.fit());
        FusedUnit inf = Edges.small();
        inf.see(60, true);
        Checks.due("INF times INF less INF is NAN", 0, inf.fit());
    }

    private static void fitByMode() {
        FusedUnit x = Edges.small();
        x.see(33, false);
        int[] due = new int[6];
        Oracle form = new Oracle(0, 3, 2);
        for (int mode = 0; mode < 6; mode++) {
            for (int bits = 0; bits < 64; bits++) {
                int told = form.sum(bits, bits, 33, mode);
                due[mode] += form.isNan(told) || form.minus(told) && form.size(told) != 0 ? 1 : 0;
            }
            x.mode(mode);
            Checks.due("fit by mode " + mode, due[mode], x.fit());
        }
        Checks.due("they differ", true, due[1] != due[2]);
    }

    private static void leastOthers() {
        Edges.withoutForm("least", -1, FusedUnit::least);
        eachSplit("least", (x, bits) -> x.least());
        FusedUnit x = Edges.small();
        x.see(12, true);
        x.see(12, false);
        Checks.due("none fits", -1, x.least());
    }

    private static void leastEnds() {
        FusedUnit x = Edges.small();
        Checks.due("all fit: the first", 0, x.least());
        x.see(44, true);
        Checks.due("by BITS, not by what they are", 12, x.least());
        FusedUnit nan = Edges.small();
        nan.see(0, false);
        Checks.due("NANS alone: the first", 29, nan.least());
        FusedUnit inf = Edges.small();
        inf.see(59, true);
        Checks.due("more than the root of GREATEST", true, inf.least() > 19 && inf.least() < 28);
        nan.see(0, false);
        Checks.due("seen twice", 29, nan.least());
    }
}
