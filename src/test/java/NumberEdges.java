/** Edges of what numbers are: the sentences of terms 2 and 3, and of promises 14 to 17, 25 to 27, 29 and 33 to 38, that name a boundary case. */
final class NumberEdges {
    private static final int[][] EXTREMES = {{2, 1}, {8, 1}, {2, 18}, {8, 18}, {3, 2}, {5, 10}};
    private static final String[] KINDS = {"plain", "flush", "sat", "whole"};

    private NumberEdges() {
    }

    static void run() {
        Checks.edge(14, "In the FORM in use, by MODE, REGISTERS and FLAGS staying", NumberEdges::allStays);
        classes();
        neighbours();
        parts();
        scaled();
        Checks.edge(33, "GAP; NoSuchElementException: others, no FORM, one is NAN, INF, NOUGHT.", NumberEdges::gapThrows);
        Checks.edge(33, "NOUGHT (of a flush FORM SUBNORMAL)", NumberEdges::gapFlush);
        Checks.edge(33, "stands above that of C's fraction (less than 0: below)", NumberEdges::gapBothWays);
        foretold();
        wholes();
    }

    /** Calls that only ask, with what they answer, on an object with something of everything. */
    private static void allStays() {
        Edges.refused("sort", 2, x -> x.sort(27));
        Edges.refused("order", 1, x -> x.order(27, 59));
        Edges.refused("above", 28, x -> x.above(27));
        Edges.refused("below", 60, x -> x.below(59));
        Edges.refused("sum", 28, x -> x.sum(27, 27, 27, 0));
        Edges.refused("marks", 10, x -> x.marks(27, 27, 27, 0));
        Edges.refused("exact", false, x -> Edges.asLong(x.exact(27, 27, 27)));
        Edges.refused("spread", 2, x -> x.spread(27, 27, 27));
        Edges.refused("twice", true, x -> Edges.asLong(x.twice(27, 16, 59)));
        Edges.refused("remains", 60, x -> x.remains(27, 27));
        Edges.refused("half", true, x -> Edges.asLong(x.half(27, 12, 12)));
        Edges.refused("part", 6, x -> x.part(27, 1));
        Edges.refused("join", 27, x -> x.join(0, 6, 3));
        Edges.refused("scale", 28, x -> x.scale(27, 400));
        Edges.refused("side", 1, x -> x.side(27, 27, 27, 0));
        Edges.refused("apart", 54, x -> x.apart(27, 59));
        Edges.refused("poly", 28, x -> x.poly(27, 0));
        Edges.refused("poly", 10, x -> x.poly(27, 1));
        Edges.refused("settles: 3, 12, INF", 2, x -> x.settles(2, 2, 2, 2));
        Edges.refused("gap", -2, x -> x.gap(27, 12, 27));
        Edges.refused("of", 28, x -> x.of(15));
        Edges.refused("into", 7, x -> x.into(3, 27));
        Edges.refused("exacts", 8, x -> x.exacts(27, 27));
        Edges.refused("swallows: INF, -INF, THE NAN", 3, x -> x.swallows(27, 27));
        Edges.refused("raises", 56, x -> x.raises(27, 27, 10));
        Edges.refused("ties: 196 + 12", 1, x -> x.ties(27, 27));
        Edges.refused("root", 27, x -> x.root(28));
        Edges.refused("inverse", 1, x -> x.inverse(27));
        Edges.refused("least", 0, FusedUnit::least);
        Edges.refused("plans", 8, x -> x.plans(0, 1, 0));
    }

    private interface EachForm {
        /** A FORM of this kind, its number of BITS that are sizes, its GREATEST and least NORMAL. */
        void look(FusedUnit x, int kind, int sign, int greatest, int leastNormal);
    }

    /** All kinds of the least FORMS and of the largest ones. */
    private static void eachForm(EachForm each) {
        for (int[] bits : EXTREMES) {
            for (int kind = 0; kind < 4; kind++) {
                FusedUnit x = Telling.made("form m " + KINDS[kind] + " exp " + bits[0] + " frac " + bits[1] + ";reg p;");
                int sign = 1 << bits[0] + bits[1];
                int greatest = kind == 3 ? sign - 1 : sign - (1 << bits[1]) - 1;
                each.look(x, kind, sign, greatest, 1 << bits[1]);
            }
        }
    }

    // ---- CLASS, ORDER ----

    private static void classes() {
        Checks.edge(14, "CLASS; NONE: others, no FORM.", NumberEdges::sortOthers);
        Checks.edge(14, "CLASS of BITS (0 NOUGHT, 1 SUBNORMAL, 2 NORMAL, 3 INF, 4 NAN)", NumberEdges::sortEdges);
        Checks.edge(14, "with the greatest exponent INF (fraction 0) or NAN, if the KIND is not whole", NumberEdges::sortGreatest);
        Checks.edge(15, "ORDER; -2: others, no FORM.", NumberEdges::orderOthers);
        Checks.edge(15, "0 they are equal (NOUGHTS are), 1 it is more, 2 any is NAN", NumberEdges::orderEdges);
    }

    private static void sortOthers() {
        for (int bits : Edges.NO_BITS) {
            Edges.refused("sort " + bits, -1, x -> x.sort(bits));
        }
        Edges.withoutForm("sort", -1, x -> x.sort(0));
        eachForm((x, kind, sign, greatest, leastNormal) -> {
            Checks.due("the last BITS", kind == 3 ? 2 : 4, x.sort(2 * sign - 1));
            Checks.due("one more", -1, x.sort(2 * sign));
            Checks.due("one less than none", -1, x.sort(-1));
        });
    }

    private static void sortEdges() {
        eachForm((x, kind, sign, greatest, leastNormal) -> {
            for (int minus = 0; minus <= sign; minus += sign) {
                Checks.due("NOUGHT", 0, x.sort(minus));
                Checks.due("the least SUBNORMAL", 1, x.sort(minus + 1));
                Checks.due("the greatest SUBNORMAL", 1, x.sort(minus + leastNormal - 1));
                Checks.due("the least NORMAL", 2, x.sort(minus + leastNormal));
                Checks.due("GREATEST", 2, x.sort(minus + greatest));
            }
        });
    }

    private static void sortGreatest() {
        eachForm((x, kind, sign, greatest, leastNormal) -> {
            for (int minus = 0; minus <= sign; minus += sign) {
                int top = sign - leastNormal;
                Checks.due("fraction 0", kind == 3 ? 2 : 3, x.sort(minus + top));
                Checks.due("fraction 1", kind == 3 ? 2 : 4, x.sort(minus + top + 1));
                Checks.due("the greatest fraction", kind == 3 ? 2 : 4, x.sort(minus + sign - 1));
            }
        });
    }

    private static void orderOthers() {
        for (int bits : Edges.NO_BITS) {
            Edges.refused("order " + bits, -2, x -> x.order(bits, 12));
            Edges.refused("order of " + bits, -2, x -> x.order(12, bits));
            Edges.refused("order of NAN", -2, x -> x.order(30, bits));
            Edges.refused("order of NAN", -2, x -> x.order(bits, 30));
        }
        Edges.withoutForm("order", -2, x -> x.order(0, 0));
    }

    private static void orderEdges() {
        eachForm((x, kind, sign, greatest, leastNormal) -> {
            Checks.due("NOUGHTS", 0, x.order(0, sign));
            Checks.due("NOUGHTS", 0, x.order(sign, 0));
            Checks.due("the least SUBNORMAL", 1, x.order(1, sign));
            Checks.due("the one with -", -1, x.order(sign + 1, 0));
            Checks.due("both of them", -1, x.order(sign + 1, 1));
            Checks.due("SUBNORMAL and NORMAL", -1, x.order(leastNormal - 1, leastNormal));
            Checks.due("with -", 1, x.order(sign + leastNormal - 1, sign + leastNormal));
            Checks.due("GREATEST", 1, x.order(greatest, sign + greatest));
            if (kind != 3) {
                Checks.due("INF", 1, x.order(greatest + 1, greatest));
                Checks.due("-INF", -1, x.order(sign + greatest + 1, sign + greatest));
                Checks.due("INF and -INF", 1, x.order(greatest + 1, sign + greatest + 1));
                Checks.due("INF and itself", 0, x.order(greatest + 1, greatest + 1));
                Checks.due("NAN", 2, x.order(greatest + 2, greatest + 2));
                Checks.due("NAN", 2, x.order(2 * sign - 1, 0));
                Checks.due("NAN", 2, x.order(greatest + 1, sign - 1));
            }
        });
    }

    // ---- NEXT, BACK, APART ----

    private static void neighbours() {
        Checks.edge(16, "NEXT; NONE: others, no FORM.", NumberEdges::aboveOthers);
        Checks.edge(16, "NEXT of BITS: of NAN, +INF, GREATEST of a whole FORM these", NumberEdges::aboveStays);
        Checks.edge(16, "of -INF -GREATEST, of GREATEST else INF", NumberEdges::aboveInf);
        Checks.edge(16, "of either NOUGHT the least SUBNORMAL (of a flush FORM, too), of that one with - -NOUGHT", NumberEdges::aboveNought);
        Checks.edge(16, "else the least number above", NumberEdges::aboveElse);
        Checks.edge(17, "BACK; NONE: others, no FORM.", NumberEdges::belowOthers);
        Checks.edge(17, "BACK: the NEXT of what has the other sign, with the other sign (NAN itself).", NumberEdges::belowEdges);
        Checks.edge(29, "APART; NONE: others, no FORM, one is NAN.", NumberEdges::apartOthers);
        Checks.edge(29, "(either NOUGHT is one and the same)", NumberEdges::apartNoughts);
        Checks.edge(29, "how many NEXTS lead from the less one to the other one", NumberEdges::apartFar);
    }

    private static void aboveOthers() {
        for (int bits : Edges.NO_BITS) {
            Edges.refused("above " + bits, -1, x -> x.above(bits));
        }
        Edges.withoutForm("above", -1, x -> x.above(0));
    }

    private static void aboveStays() {
        eachForm((x, kind, sign, greatest, leastNormal) -> {
            if (kind == 3) {
                Checks.due("GREATEST", greatest, x.above(greatest));
                return;
            }
            int inf = greatest + 1;
            int[] stay = {inf, inf + 1, sign - 1, sign + inf + 1, 2 * sign - 1, x.form(0, 5), x.form(0, 5) + sign};
            for (int bits : stay) {
                Checks.due("stays " + bits, bits, x.above(bits));
            }
        });
    }

    private static void aboveInf() {
        eachForm((x, kind, sign, greatest, leastNormal) -> {
            if (kind != 3) {
                Checks.due("-INF", sign + greatest, x.above(sign + greatest + 1));
                Checks.due("GREATEST", greatest + 1, x.above(greatest));
            }
        });
    }

    private static void aboveNought() {
        eachForm((x, kind, sign, greatest, leastNormal) -> {
            Checks.due("+NOUGHT", 1, x.above(0));
            Checks.due("-NOUGHT", 1, x.above(sign));
            Checks.due("the least SUBNORMAL with -", sign, x.above(sign + 1));
        });
    }

    private static void aboveElse() {
        eachForm((x, kind, sign, greatest, leastNormal) -> {
            Checks.due("the least NORMAL above the SUBNORMALS", leastNormal, x.above(leastNormal - 1));
            Checks.due("and with -", sign + leastNormal - 1, x.above(sign + leastNormal));
            Checks.due("to the next exponent", 2 * leastNormal, x.above(2 * leastNormal - 1));
            Checks.due("to GREATEST", greatest, x.above(greatest - 1));
            Checks.due("from -GREATEST", sign + greatest - 1, x.above(sign + greatest));
            Checks.due("the least SUBNORMAL", 2, x.above(1));
        });
    }

    private static void belowOthers() {
        for (int bits : Edges.NO_BITS) {
            Edges.refused("below " + bits, -1, x -> x.below(bits));
        }
        Edges.withoutForm("below", -1, x -> x.below(0));
    }

    private static void belowEdges() {
        eachForm((x, kind, sign, greatest, leastNormal) -> {
            Checks.due("+NOUGHT", sign + 1, x.below(0));
            Checks.due("-NOUGHT", sign + 1, x.below(sign));
            Checks.due("the least SUBNORMAL", 0, x.below(1));
            Checks.due("with -", sign + 2, x.below(sign + 1));
            Checks.due("the least NORMAL", leastNormal - 1, x.below(leastNormal));
            Checks.due("GREATEST", greatest - 1, x.below(greatest));
            if (kind == 3) {
                Checks.due("-GREATEST of a whole FORM", sign + greatest, x.below(sign + greatest));
            } else {
                int inf = greatest + 1;
                Checks.due("INF", greatest, x.below(inf));
                Checks.due("-INF", sign + inf, x.below(sign + inf));
                Checks.due("-GREATEST", sign + inf, x.below(sign + greatest));
                Checks.due("NAN", inf + 1, x.below(inf + 1));
                Checks.due("-NAN", sign + inf + 1, x.below(sign + inf + 1));
                Checks.due("NAN", 2 * sign - 1, x.below(2 * sign - 1));
            }
        });
    }

    private static void apartOthers() {
        for (int bits : Edges.NO_BITS) {
            Edges.refused("apart " + bits, -1, x -> x.apart(bits, 12));
            Edges.refused("apart from " + bits, -1, x -> x.apart(12, bits));
        }
        int[] nans = {29, 30, 31, 61, 62, 63};
        for (int bits : nans) {
            Edges.refused("apart " + bits, -1, x -> x.apart(bits, 12));
            Edges.refused("apart from " + bits, -1, x -> x.apart(12, bits));
            Edges.refused("apart from itself", -1, x -> x.apart(bits, bits));
        }
        Edges.withoutForm("apart", -1, x -> x.apart(0, 0));
    }

    private static void apartNoughts() {
        eachForm((x, kind, sign, greatest, leastNormal) -> {
            Checks.due("NOUGHTS", 0, x.apart(0, sign));
            Checks.due("NOUGHTS", 0, x.apart(sign, 0));
            Checks.due("across", 2, x.apart(sign + 1, 1));
            Checks.due("across", 2, x.apart(1, sign + 1));
            Checks.due("from -NOUGHT", 1, x.apart(sign, 1));
            Checks.due("to -NOUGHT", 1, x.apart(sign + 1, sign));
            Checks.due("to +NOUGHT", 1, x.apart(sign + 1, 0));
        });
    }

    private static void apartFar() {
        eachForm((x, kind, sign, greatest, leastNormal) -> {
            int top = kind == 3 ? greatest : greatest + 1;
            Checks.due("from end to end", 2 * top, x.apart(sign + top, top));
            Checks.due("from end to end", 2 * top, x.apart(top, sign + top));
            Checks.due("none", 0, x.apart(top, top));
            Checks.due("none", 0, x.apart(sign + top, sign + top));
            Checks.due("to INF of others", kind == 3 ? 0 : 1, x.apart(greatest, top));
            Checks.due("SUBNORMAL and NORMAL", 1, x.apart(leastNormal - 1, leastNormal));
        });
    }

    // ---- PART, JOIN, SCALE ----

    private static void parts() {
        Checks.edge(25, "PART, what 0: sign, 1: exponent, 2: fraction; NONE: others, no FORM.", NumberEdges::partOthers);
        Checks.edge(25, "PART of BITS: sign (1: minus), exponent, fraction", NumberEdges::partEdges);
        Checks.edge(26, "JOIN; NONE: others, no FORM.", NumberEdges::joinOthers);
        Checks.edge(26, "JOIN of these: BITS", NumberEdges::joinEdges);
    }

    private static void partOthers() {
        for (int bits : Edges.NO_BITS) {
            for (int what = 0; what < 3; what++) {
                int asked = what;
                Edges.refused("part " + bits, -1, x -> x.part(bits, asked));
            }
        }
        int[] whats = {-1, 3, 4, Edges.MIN, Edges.MAX};
        for (int what : whats) {
            Edges.refused("what " + what, -1, x -> x.part(12, what));
        }
        Edges.withoutForm("part", -1, x -> x.part(0, 0));
    }

    private static void partEdges() {
        eachForm((x, kind, sign, greatest, leastNormal) -> {
            int[] bits = {0, sign, 1, leastNormal - 1, leastNormal, sign - 1, 2 * sign - 1};
            int exponents = sign / leastNormal - 1;
            int[][] due = {{0, 0, 0}, {1, 0, 0}, {0, 0, 1}, {0, 0, leastNormal - 1}, {0, 1, 0}, {0, exponents, leastNormal - 1},
                {1, exponents, leastNormal - 1}};
            for (int i = 0; i < bits.length; i++) {
                for (int what = 0; what < 3; what++) {
                    Checks.due("part " + bits[i] + " " + what, due[i][what], x.part(bits[i], what));
                }
            }
        });
    }

    private static void joinOthers() {
        int[] signs = {-1, 2, Edges.MIN, Edges.MAX};
        int[] exponents = {-1, 8, 9, Edges.MIN, Edges.MAX};
        int[] fractions = {-1, 4, 5, Edges.MIN, Edges.MAX};
        for (int sign : signs) {
            Edges.refused("sign " + sign, -1, x -> x.join(sign, 0, 0));
        }
        for (int exponent : exponents) {
            Edges.refused("exponent " + exponent, -1, x -> x.join(0, exponent, 0));
        }
        for (int fraction : fractions) {
            Edges.refused("fraction " + fraction, -1, x -> x.join(0, 0, fraction));
        }
        Edges.withoutForm("join", -1, x -> x.join(0, 0, 0));
    }

    private static void joinEdges() {
        eachForm((x, kind, sign, greatest, leastNormal) -> {
            int exponents = sign / leastNormal - 1;
            Checks.due("the last BITS", 2 * sign - 1, x.join(1, exponents, leastNormal - 1));
            Checks.due("nothing", 0, x.join(0, 0, 0));
            Checks.due("sign", sign, x.join(1, 0, 0));
            Checks.due("exponent 1", leastNormal, x.join(0, 1, 0));
            Checks.due("one exponent more", -1, x.join(0, exponents + 1, 0));
            Checks.due("one fraction more", -1, x.join(0, 0, leastNormal));
        });
    }

    private static void scaled() {
        Checks.edge(27, "SCALE; NONE: others, no FORM.", NumberEdges::scaleOthers);
        Checks.edge(27, "SCALE of BITS by n (-400 to 400)", NumberEdges::scaleFar);
        Checks.edge(27, "(THE NAN, INF, NOUGHT stay)", NumberEdges::scaleStays);
        Checks.edge(27, "what they are times 2 to the power of n, ROUNDED by MODE", NumberEdges::scaleRounds);
    }

    private static void scaleOthers() {
        for (int bits : Edges.NO_BITS) {
            Edges.refused("scale " + bits, -1, x -> x.scale(bits, 0));
        }
        int[] powers = {-401, 401, Edges.MIN, Edges.MAX};
        int[] any = {12, 0, 28, 30};
        for (int n : powers) {
            for (int bits : any) {
                Edges.refused("by " + n, -1, x -> x.scale(bits, n));
            }
        }
        Edges.withoutForm("scale", -1, x -> x.scale(0, 0));
    }

    private static void scaleFar() {
        eachForm((x, kind, sign, greatest, leastNormal) -> {
            int beyond = kind < 2 ? greatest + 1 : greatest;
            int fraction = Integer.numberOfTrailingZeros(leastNormal);
            Checks.due("400", beyond, x.scale(leastNormal, 400));
            Checks.due("400, minus", sign + beyond, x.scale(sign + leastNormal, 400));
            Checks.due("-400", 0, x.scale(greatest, -400));
            Checks.due("-400, minus", sign, x.scale(sign + greatest, -400));
            Checks.due("from the least SUBNORMAL far up", beyond, x.scale(1, 400));
            Checks.due("to 1", x.form(0, 3) << fraction, x.scale(1, x.form(0, 3) - 1 + fraction));
            x.mode(3);
            Checks.due("-400, up", kind == 1 ? 0 : 1, x.scale(greatest, -400));
            Checks.due("-400, up, minus", sign, x.scale(sign + greatest, -400));
        });
    }

    private static void scaleStays() {
        eachForm((x, kind, sign, greatest, leastNormal) -> {
            for (int n = -400; n <= 400; n += 100) {
                Checks.due("NOUGHT", 0, x.scale(0, n));
                Checks.due("-NOUGHT", sign, x.scale(sign, n));
                if (kind != 3) {
                    Checks.due("INF", greatest + 1, x.scale(greatest + 1, n));
                    Checks.due("-INF", sign + greatest + 1, x.scale(sign + greatest + 1, n));
                    Checks.due("THE NAN", x.form(0, 5), x.scale(x.form(0, 5), n));
                }
            }
        });
    }

    private static void scaleRounds() {
        int[] up = {0, 0, 0, 1, 1, 0};
        int[] upMinus = {32, 32, 33, 32, 33, 32};
        int[] beyond = {28, 27, 27, 28, 28, 27};
        for (int mode = 0; mode < 6; mode++) {
            FusedUnit x = Edges.small();
            x.mode(mode);
            Checks.due("half of the least SUBNORMAL", up[mode], x.scale(1, -1));
            Checks.due("with -", upMinus[mode], x.scale(33, -1));
            Checks.due("12 times 2", beyond[mode], x.scale(26, 1));
            Checks.due("no flags", 0, x.count(4));
        }
        FusedUnit flush = Edges.small(1);
        Checks.due("a SUBNORMAL of a flush FORM is TINY", 0, flush.scale(3, 0));
        Checks.due("it is what it is times 2 to the power of n", 4, flush.scale(1, 2));
        Checks.due("to a SUBNORMAL", 0, flush.scale(4, -1));
        Checks.due("with -", 32, flush.scale(36, -1));
    }

    // ---- GAP ----

    private static void gapThrows() {
        int[] none = {0, 32, 28, 60, 29, 30, 31, 61, 62, 63};
        for (int[] all : new int[][] {Edges.NO_BITS, none}) {
            for (int bits : all) {
                Edges.throwsNone(Edges.busy(), "gap a " + bits, x -> x.gap(bits, 12, 12));
                Edges.throwsNone(Edges.busy(), "gap b " + bits, x -> x.gap(12, bits, 12));
                Edges.throwsNone(Edges.busy(), "gap c " + bits, x -> x.gap(12, 12, bits));
            }
        }
        Edges.throwsNone(new FusedUnit(), "gap", x -> x.gap(1, 1, 1));
        Edges.throwsNone(Telling.made("reg p;"), "gap", x -> x.gap(1, 1, 1));
    }

    private static void gapFlush() {
        eachForm((x, kind, sign, greatest, leastNormal) -> {
            int[] subnormals = {1, leastNormal - 1, sign + 1, sign + leastNormal - 1};
            for (int bits : subnormals) {
                if (kind == 1) {
                    Edges.throwsNone(x, "gap a " + bits, y -> y.gap(bits, leastNormal, leastNormal));
                    Edges.throwsNone(x, "gap b " + bits, y -> y.gap(leastNormal, bits, leastNormal));
                    Edges.throwsNone(x, "gap c " + bits, y -> y.gap(leastNormal, leastNormal, bits));
                } else {
                    Checks.due("SUBNORMALS stand as the least NORMAL", x.gap(leastNormal, leastNormal, leastNormal), x.gap(bits, leastNormal, bits));
                }
            }
            Checks.due("the least NORMAL", 1 - x.form(0, 3) - x.form(0, 2), x.gap(leastNormal, leastNormal, leastNormal));
        });
    }

    private static void gapBothWays() {
        FusedUnit x = Edges.small();
        int[][] rows = {{12, 12, 12, -2}, {16, 16, 12, 0}, {20, 16, 12, 1}, {27, 27, 1, 6}, {1, 1, 27, -9}, {4, 4, 4, -4}, {44, 45, 46, -2}};
        for (int[] row : rows) {
            Checks.due("gap " + row[0] + " " + row[1] + " " + row[2], row[3], x.gap(row[0], row[1], row[2]));
        }
        FusedUnit large = Telling.made("form m whole exp 8 frac 18;");
        int greatest = (1 << 26) - 1;
        Checks.due("the greatest gap", 2 * (128 - 18) + 126 + 18, large.gap(greatest, greatest, 1));
        Checks.due("the least gap", -2 * (126 + 18) - (128 - 18), large.gap(1, 1, greatest));
    }

    // ---- LEADS, OFF ----

    private static void foretold() {
        Checks.edge(34, "(64: none is)", NumberEdges::leadsNone);
        Checks.edge(34, "of BITS 0 (the lowest) to 63 (beyond these: t, g none, z as if neither had)", NumberEdges::leadsBeyond);
        Checks.edge(34, "LEADS: how many BITS from 63 down stand ahead of the first one that is FORETOLD", NumberEdges::leadsEachPlace);
        Checks.edge(35, "leading BITS of x + y (wrapping) are like its highest one, that one, too", NumberEdges::offEdges);
    }

    private static void leadsNone() {
        FusedUnit x = new FusedUnit();
        Checks.due("0 and 0", 64, x.leads(0, 0));
        Checks.due("-1 and 1", 64, x.leads(-1, 1));
        Checks.due("the lowest one alone", 63, x.leads(-1, -1));
        for (int i = 0; i < 63; i++) {
            Checks.due("to nought", PrefixTests.byWords(1L << i, -1L << i), x.leads(1L << i, -1L << i));
        }
    }

    private static void leadsBeyond() {
        FusedUnit x = new FusedUnit();
        long[] edges = {0, 1, 2, 3, -1, -2, -3, Long.MIN_VALUE, Long.MAX_VALUE, 1L << 62, 3L << 62, Long.MIN_VALUE + 1, 1L << 61};
        for (long a : edges) {
            for (long b : edges) {
                Checks.due("leads " + a + " " + b, PrefixTests.byWords(a, b), x.leads(a, b));
            }
        }
        Checks.due("z at 2, g at 1", 61, x.leads(2, 2));
        Checks.due("g at 0, none below it", 61, x.leads(3, 3));
        Checks.due("g at 63, no t above it", 0, x.leads(Long.MIN_VALUE, Long.MIN_VALUE));
        Checks.due("t at 63, z at 62", 1, x.leads(Long.MIN_VALUE, 0));
        Edges.withoutForm("without a FORM", 62, y -> y.leads(1, 0));
    }

    private static void leadsEachPlace() {
        for (int i = 0; i < 64; i++) {
            FusedUnit x = new FusedUnit();
            for (int k = 0; k < 8; k++) {
                long a = 1L << i | (k & 1);
                long b = (k & 2) == 0 ? 1L << i : 0;
                long c = (k & 4) == 0 ? b : -b;
                Checks.due("leads " + a + " " + c, PrefixTests.byWords(a, c), x.leads(a, c));
                Checks.due("leads " + c + " " + a, PrefixTests.byWords(a, c), x.leads(c, a));
            }
            Checks.due("one has it", i == 63 ? 1 : 62 - i, x.leads(1L << i, 0));
        }
    }

    private static void offEdges() {
        FusedUnit x = new FusedUnit();
        long[] edges = {0, 1, 2, -1, -2, Long.MIN_VALUE, Long.MAX_VALUE, 1L << 62, -(1L << 62), Long.MIN_VALUE + 1, 1L << 32};
        for (long a : edges) {
            for (long b : edges) {
                Checks.due("off " + a + " " + b, PrefixTests.alike(a + b) - PrefixTests.byWords(a, b), x.off(a, b));
            }
        }
        Checks.due("wraps to 0: 64 are alike", 64 - x.leads(Long.MIN_VALUE, Long.MIN_VALUE), x.off(Long.MIN_VALUE, Long.MIN_VALUE));
        Checks.due("wraps to minus", 1 - x.leads(Long.MAX_VALUE, 1), x.off(Long.MAX_VALUE, 1));
        Checks.due("-1: 64 are alike", 64 - x.leads(-1, 0), x.off(-1, 0));
        Edges.withoutForm("without a FORM", 1, y -> y.off(1, 0));
    }

    // ---- WHOLE, OF, INTO ----

    private static void wholes() {
        Checks.edge(36, "NoSuchElementException: NAN, INF, beyond an int", NumberEdges::wholeBeyond);
        Checks.edge(36, "NoSuchElementException: others, no FORM, NAN, INF, beyond.", NumberEdges::wholeThrows);
        Checks.edge(36, "guard is the half, rest what is below", NumberEdges::wholeHalves);
        Checks.edge(37, "OF; NONE: no FORM.", NumberEdges::ofWithoutForm);
        Checks.edge(37, "OF of an int: ROUNDED by MODE (0: +NOUGHT)", NumberEdges::ofEdges);
        Checks.edge(38, "INTO; NONE: others, no FORM.", NumberEdges::intoOthers);
        Checks.edge(38, "INTO of a FORM and BITS of the FORM in use: what USE of it makes of them.", NumberEdges::intoAsUse);
    }

    private static void wholeBeyond() {
        for (int kind = 0; kind < 4; kind++) {
            FusedUnit x = Telling.made("form m " + KINDS[kind] + " exp 8 frac 18;");
            int two31 = 127 + 31 << 18;
            int minus = 1 << 26;
            for (int mode = 0; mode < 6; mode++) {
                x.mode(mode);
                Checks.due("just within", Edges.MAX - 4095, x.whole(two31 - 1));
                Checks.due("the least int", Edges.MIN, x.whole(minus + two31));
                Checks.due("just within", -(Edges.MAX - 4095), x.whole(minus + two31 - 1));
                Checks.refuses("2 to the power of 31", () -> x.whole(two31));
                Checks.refuses("just beyond", () -> x.whole(minus + two31 + 1));
                Checks.refuses("2 to the power of 32", () -> x.whole(two31 + (1 << 18)));
                Checks.refuses("2 to the power of 63", () -> x.whole(two31 + (32 << 18)));
                Checks.refuses("2 to the power of 64", () -> x.whole(two31 + (33 << 18)));
                Checks.refuses("GREATEST", () -> x.whole(x.form(0, 4)));
                Checks.refuses("-GREATEST", () -> x.whole(minus + x.form(0, 4)));
            }
        }
    }

    private static void wholeThrows() {
        int[] none = {28, 60, 29, 30, 31, 61, 63};
        for (int[] all : new int[][] {Edges.NO_BITS, none}) {
            for (int bits : all) {
                Edges.throwsNone(Edges.busy(), "whole " + bits, x -> x.whole(bits));
            }
        }
        Edges.throwsNone(new FusedUnit(), "whole", x -> x.whole(0));
        Edges.throwsNone(Telling.made("reg p;"), "whole", x -> x.whole(0));
        Edges.refused("14", 14, x -> x.whole(27));
        Edges.refused("-14", -14, x -> x.whole(59));
        Edges.refused("-NOUGHT", 0, x -> x.whole(32));
        Checks.due("the last BITS of a whole FORM", -6, Edges.small(3).whole(15));
    }

    private static void wholeHalves() {
        Oracle form = new Oracle(0, 8, 18);
        int one = 127 << 18;
        int[] bits = {one - (1 << 18), one - (1 << 18) + 1, one - (1 << 18) - 1, one + (1 << 17), one + (1 << 17) + 1, one + (1 << 17) - 1,
            one + (1 << 18) + (1 << 16), one - 1, one + 1, 1, one - (2 << 18), one - (3 << 18)};
        int[][] up = {{0, 0, 0, 1, 1}, {1, 0, 0, 1, 1}, {0, 0, 0, 1, 0}, {2, 1, 1, 2, 2}, {2, 1, 1, 2, 2}, {1, 1, 1, 2, 1},
            {2, 2, 2, 3, 3}, {1, 0, 0, 1, 1}, {1, 1, 1, 2, 1}, {0, 0, 0, 1, 0}, {0, 0, 0, 1, 0}, {0, 0, 0, 1, 0}};
        int[] mirrored = {0, 1, 3, 2, 4};
        for (int mode = 0; mode < 5; mode++) {
            FusedUnit x = Telling.made(form, 0, "");
            x.mode(mode);
            for (int i = 0; i < bits.length; i++) {
                Checks.due("whole " + bits[i] + " mode " + mode, up[i][mode], x.whole(bits[i]));
                Checks.due("minus " + bits[i] + " mode " + mode, -up[i][mirrored[mode]], x.whole(bits[i] | form.signBit));
            }
            Checks.due("no flags", 0, x.count(4));
        }
        FusedUnit own = Telling.made(form, 0, "guard and odd and not rest and not minus");
        own.mode(5);
        Checks.due("1.5 by own", 2, own.whole(one + (1 << 17)));
        Checks.due("2.5 by own", 2, own.whole(one + (1 << 18) + (1 << 16)));
        Checks.due("-1.5 by own", -1, own.whole(form.signBit | one + (1 << 17)));
        Checks.due("1.5 and more by own", 1, own.whole(one + (1 << 17) + 1));
    }

    private static void ofWithoutForm() {
        int[] any = {0, 1, -1, Edges.MIN, Edges.MAX};
        for (int n : any) {
            Edges.withoutForm("of " + n, -1, x -> x.of(n));
        }
    }

    private static void ofEdges() {
        for (int mode = 0; mode < 6; mode++) {
            for (int kind = 0; kind < 4; kind++) {
                Oracle large = new Oracle(kind, 8, 18);
                Oracle least = new Oracle(kind, 2, 1);
                FusedUnit x = Telling.made(large, 0, "");
                FusedUnit y = Telling.made(least, 0, "");
                x.mode(mode);
                y.mode(mode);
                int[] numbers = {0, 1, -1, 2, 3, 4, 5, 6, 7, -3, -4, -5, Edges.MAX, Edges.MIN, Edges.MIN + 1, Edges.MAX - 1, (1 << 19) - 1, 1 << 19,
                    (1 << 19) + 1, (1 << 20) + 1, (1 << 20) + 3, -(1 << 20) - 1};
                for (int n : numbers) {
                    Checks.due("of " + n + " mode " + mode, large.of(n, mode), x.of(n));
                    Checks.due("least of " + n + " mode " + mode, least.of(n, mode), y.of(n));
                }
                Checks.due("0 is +NOUGHT", 0, x.of(0));
                Checks.due("no flags", 0, x.count(4) + y.count(4));
            }
        }
        FusedUnit x = Telling.made(new Oracle(0, 8, 18), 0, "");
        Checks.due("the least int", 1 << 26 | 127 + 31 << 18, x.of(Edges.MIN));
        Checks.due("the greatest int", 127 + 31 << 18, x.of(Edges.MAX));
    }

    private static void intoOthers() {
        int[] others = {-1, 4, 5, Edges.MIN, Edges.MAX};
        for (int other : others) {
            Edges.refused("into " + other, -1, x -> x.into(other, 12));
        }
        for (int bits : Edges.NO_BITS) {
            Edges.refused("bits " + bits, -1, x -> x.into(0, bits));
            Edges.refused("bits " + bits, -1, x -> x.into(3, bits));
        }
        Edges.withoutForm("into", -1, x -> x.into(0, 0));
        Checks.due("BITS of the FORM in use", -1, Edges.small(3).into(0, 16));
        Checks.due("BITS of the FORM in use", 54, Edges.small(3).into(0, 15));
    }

    private static void intoAsUse() {
        for (int from = 0; from < 4; from++) {
            for (int to = 0; to < 4; to++) {
                for (int bits = 0; bits < (from == 3 ? 16 : 64); bits++) {
                    FusedUnit x = Edges.small(from);
                    x.mode(bits % 6);
                    x.set(0, bits);
                    int form = to;
                    int told = x.into(to, bits);
                    int asked = bits;
                    if (bits % 8 == 0) {
                        Edges.stays(x, "into " + to, told, y -> y.into(form, asked));
                    }
                    x.use(to);
                    Checks.due("into " + to + " from " + from + " " + bits, x.reg(0), told);
                }
            }
        }
    }
}
