/** Edges of what was asked, and of plans by draws: the sentences of term 2 and 3, and of promises 45 to 48 and 52, that name a boundary case. */
final class AskedEdges {
    private AskedEdges() {
    }

    static void run() {
        Checks.edge(45, "ASKED, how many, each once.", AskedEdges::eachOnce);
        Checks.edge(45, "of the same C, and of the same two factors in either order (all by their BITS)", AskedEdges::alike);
        Checks.edge(45, "An object is used for at most 512 calls", AskedEdges::full);
        Checks.edge(46, "How often the i-th (from 0) that was ASKED was; NONE: none such.", AskedEdges::oftenOthers);
        Checks.edge(46, "in the order in which each came first", AskedEdges::order);
        Checks.edge(47, "How often a SUM of the FORM in use was ASKED; NONE: others, no FORM.", AskedEdges::timesOthers);
        Checks.edge(47, "a SUM of the FORM in use", AskedEdges::timesOfForm);
        Checks.edge(48, "NOUGHTS of either sign in any FORM are one, all NANS are one, else of one FORM the same BITS.", AskedEdges::resultsAlike);
        Checks.edge(48, "what came of them, each once", AskedEdges::resultsOnce);
        Checks.edge(52, "PLANS by a SEED (0 to 9999), what 0: FLAGS, 1, 2: how many; NONE: others, no FORM, no REGISTERS.", AskedEdges::plansOthers);
        Checks.edge(52, "PLANS by a SEED of so many (1 to 99) FMAS", AskedEdges::plansEnds);
        Checks.edge(52, "from now on (all is as ahead then)", AskedEdges::plansFromNow);
        Checks.edge(52, "A DRAW below m: g becomes (g * 1103515245 + 12345) modulo 2147483648", AskedEdges::draws);
    }

    private static FusedUnit withRegisters(int... bits) {
        FusedUnit x = Telling.made("form m plain exp 3 frac 2;form n plain exp 3 frac 2;form s sat exp 3 frac 2;form w whole exp 3 frac 2;"
                + "reg a;reg b;reg c;reg d;reg e;reg f;");
        for (int i = 0; i < bits.length; i++) {
            x.set(i, bits[i]);
        }
        return x;
    }

    private static void eachOnce() {
        FusedUnit x = withRegisters(12, 13, 14);
        Checks.due("none", 0, x.asked());
        for (int i = 1; i <= 20; i++) {
            x.fma(5, 0, 1, 2);
            Checks.due("one", 1, x.asked());
            Checks.due("so often", i, x.often(0));
            Checks.due("so often", i, x.times(12, 13, 14, 0));
        }
        x.sum(12, 12, 12, 0);
        x.marks(12, 12, 12, 0);
        x.total();
        x.poly(12, 0);
        x.settles(0, 1, 2, 3);
        x.plans(1, 9, 0);
        x.exacts(12, 12);
        x.into(1, 12);
        Telling.plan(x, "fma b a a a;");
        x.judged(1);
        x.use(1);
        Checks.due("by FMA alone", 1, x.asked());
        x.fma(9, 0, 0, 0);
        Checks.due("not by one that is refused", 1, x.asked());
        Edges.withoutForm("none", 0, FusedUnit::asked);
    }

    private static void alike() {
        FusedUnit x = withRegisters(0, 32, 29, 30, 12);
        x.fma(5, 0, 4, 0);
        x.fma(5, 4, 0, 0);
        Checks.due("either order", 1, x.asked());
        x.fma(5, 1, 4, 0);
        Checks.due("-NOUGHT is another factor", 2, x.asked());
        x.fma(5, 0, 4, 1);
        Checks.due("-NOUGHT is another C", 3, x.asked());
        x.fma(5, 2, 4, 0);
        x.fma(5, 3, 4, 0);
        Checks.due("NANS by their BITS", 5, x.asked());
        x.fma(5, 4, 4, 0);
        Checks.due("a factor and C do not change places", 6, x.asked());
        x.fma(5, 0, 0, 4);
        Checks.due("as here", 7, x.asked());
        x.mode(1);
        x.fma(5, 0, 4, 0);
        Checks.due("by another MODE", 8, x.asked());
        x.use(1);
        x.set(0, 0);
        x.set(4, 12);
        x.fma(5, 0, 4, 0);
        Checks.due("of another FORM that is alike", 9, x.asked());
        x.use(0);
        x.fma(5, 4, 0, 0);
        Checks.due("of the first one again", 9, x.asked());
        Checks.due("so often", 2, x.often(7));
    }

    /** 7 calls, then FMAS that are all different, then 5 calls: 512 in all. */
    private static void full() {
        FusedUnit x = new FusedUnit();
        x.feed(Telling.eight("form m p", 0), Telling.eight("lain exp", 0), Telling.eight(" 8 frac ", 0));
        x.feed(Telling.eight("18;reg p", 0), Telling.eight(";reg q; ", 0), 0);
        Checks.due("unit", 0, x.unit());
        int one = 127 << 18;
        x.set(0, one);
        x.set(1, one);
        for (int i = 0; i < 502; i++) {
            x.fma(1, 0, 0, 1);
        }
        Checks.due("asked", 502, x.asked());
        Checks.due("results", 502, x.results());
        Checks.due("the first one", 1, x.often(0));
        Checks.due("the last one", 1, x.often(501));
        Checks.due("none such", -1, x.often(502));
    }

    private static void oftenOthers() {
        int[] others = {-1, 2, 3, 511, 512, 513, Edges.MIN, Edges.MAX};
        for (int other : others) {
            Edges.refused("often " + other, -1, x -> x.often(other));
        }
        Edges.refused("the last one", 1, x -> x.often(1));
        Edges.withoutForm("often 0", -1, x -> x.often(0));
        FusedUnit x = withRegisters(12);
        Checks.due("none yet", -1, x.often(0));
        x.fma(1, 0, 0, 0);
        x.undo();
        Checks.due("none any more", -1, x.often(0));
    }

    private static void order() {
        FusedUnit x = withRegisters(12, 13, 14);
        x.fma(5, 2, 2, 2);
        x.fma(5, 0, 0, 0);
        x.fma(5, 1, 1, 1);
        x.fma(5, 0, 0, 0);
        x.fma(5, 1, 1, 1);
        x.fma(5, 1, 1, 1);
        int[] due = {1, 2, 3, -1};
        for (int i = 0; i < due.length; i++) {
            Checks.due("often " + i, due[i], x.often(i));
        }
        for (int i = 0; i < 5; i++) {
            x.undo();
        }
        x.fma(5, 1, 1, 1);
        x.fma(5, 1, 1, 1);
        x.fma(5, 0, 0, 0);
        int[] then = {1, 2, 1, -1};
        for (int i = 0; i < then.length; i++) {
            Checks.due("then often " + i, then[i], x.often(i));
        }
    }

    private static void timesOthers() {
        for (int bits : Edges.NO_BITS) {
            Edges.refused("times a " + bits, -1, x -> x.times(bits, 12, 12, 0));
            Edges.refused("times b " + bits, -1, x -> x.times(12, bits, 12, 0));
            Edges.refused("times c " + bits, -1, x -> x.times(12, 12, bits, 0));
        }
        for (int mode : Edges.NO_MODES) {
            Edges.refused("times mode " + mode, -1, x -> x.times(13, 13, 13, mode));
        }
        Edges.withoutForm("times", -1, x -> x.times(0, 0, 0, 0));
        Edges.refused("never", 0, x -> x.times(12, 12, 12, 5));
        Edges.refused("once", 1, x -> x.times(13, 13, 13, 3));
        Edges.refused("by another MODE", 0, x -> x.times(13, 13, 13, 0));
        Checks.due("BITS of the FORM in use", -1, Edges.small(3).times(16, 0, 0, 0));
        Checks.due("BITS of the FORM in use", 0, Edges.small(3).times(15, 0, 0, 0));
    }

    private static void timesOfForm() {
        FusedUnit x = withRegisters(12, 13);
        x.fma(5, 0, 1, 0);
        Checks.due("of this one", 1, x.times(13, 12, 12, 0));
        x.use(1);
        Checks.due("of another one", 0, x.times(13, 12, 12, 0));
        x.fma(5, 0, 1, 0);
        x.fma(5, 0, 1, 0);
        Checks.due("of another one", 2, x.times(13, 12, 12, 0));
        x.use(0);
        Checks.due("of this one", 1, x.times(12, 13, 12, 0));
        Checks.due("two in all", 2, x.asked());
    }

    private static void resultsAlike() {
        FusedUnit x = withRegisters(0, 32, 28, 12, 60);
        x.fma(5, 0, 0, 0);
        x.fma(5, 0, 1, 1);
        Checks.due("+NOUGHT and -NOUGHT", 1, x.results());
        x.fma(5, 2, 0, 0);
        x.fma(5, 2, 3, 4);
        Checks.due("NAN", 2, x.results());
        x.fma(5, 3, 3, 3);
        Checks.due("2", 3, x.results());
        x.fma(5, 2, 3, 3);
        x.fma(5, 4, 3, 3);
        Checks.due("INF and -INF", 5, x.results());
        for (int form = 1; form < 3; form++) {
            x.use(form);
            x.fma(5, 0, 0, 0);
            x.fma(5, 0, 1, 1);
            x.fma(5, 2, 0, 0);
            Checks.due("NOUGHTS and NANS of any FORM", 5 + (form - 1) * 2, x.results());
            x.fma(5, 3, 3, 3);
            x.fma(5, 2, 3, 3);
            Checks.due("2 and INF of another FORM", 7 + (form - 1) * 2, x.results());
        }
        x.use(3);
        x.fma(5, 0, 0, 0);
        x.fma(5, 1, 3, 1);
        Checks.due("NOUGHTS of a whole FORM", 9, x.results());
        x.set(2, 30);
        x.fma(5, 2, 3, 0);
        Checks.due("30 of a whole FORM is no NAN", 10, x.results());
        resultsOfLargest();
    }

    /** The same BITS but for the sign, and the same BITS, of four FORMS of the largest size. */
    private static void resultsOfLargest() {
        String bits = " exp 8 frac 18;";
        FusedUnit x = Telling.made("form a plain" + bits + "form b flush" + bits + "form c sat" + bits + "form d whole" + bits + "reg p;reg q;reg r;");
        int one = 127 << 18;
        int results = 0;
        for (int form = 0; form < 4; form++) {
            x.use(form);
            for (int minus = 0; minus <= 1 << 26; minus += 1 << 26) {
                x.set(0, one);
                x.set(1, one | minus);
                x.set(2, 0);
                x.fma(2, 0, 1, 2);
                results++;
                Checks.due("1 and -1 of each FORM", results, x.results());
                x.fma(2, 0, 1, 2);
                results++;
                Checks.due("2 and -2 of each FORM", results, x.results());
            }
        }
    }

    private static void resultsOnce() {
        FusedUnit x = withRegisters(12, 16, 0, 44);
        Checks.due("none", 0, x.results());
        x.fma(5, 0, 0, 0);
        x.fma(5, 0, 1, 2);
        x.fma(5, 1, 1, 2);
        Checks.due("2, 2, 4", 2, x.results());
        x.fma(5, 1, 3, 2);
        Checks.due("-2", 3, x.results());
        x.undo();
        x.undo();
        Checks.due("4 and -2 are undone", 1, x.results());
        x.undo();
        Checks.due("2 is once more there", 1, x.results());
        x.undo();
        Checks.due("none", 0, x.results());
        Edges.withoutForm("none", 0, FusedUnit::results);
    }

    private static void plansOthers() {
        int[] seeds = {-1, 10000, 10001, Edges.MIN, Edges.MAX};
        int[] manies = {-1, 0, 100, 101, Edges.MIN, Edges.MAX};
        int[] whats = {-1, 3, 4, Edges.MIN, Edges.MAX};
        for (int seed : seeds) {
            Edges.refused("seed " + seed, -1, x -> x.plans(seed, 1, 0));
        }
        for (int many : manies) {
            Edges.refused("so many " + many, -1, x -> x.plans(1, many, 0));
        }
        for (int what : whats) {
            Edges.refused("what " + what, -1, x -> x.plans(1, 1, what));
        }
        Edges.withoutForm("plans", -1, x -> x.plans(0, 1, 0));
        FusedUnit none = Telling.made("form m plain exp 3 frac 2;");
        for (int what = 0; what < 3; what++) {
            Checks.due("no registers", -1, none.plans(0, 1, what));
        }
    }

    private static void plansEnds() {
        int[] seeds = {0, 1, 9998, 9999};
        int[] manies = {1, 2, 98, 99};
        for (int registers = 1; registers <= 6; registers++) {
            Oracle form = new Oracle(0, 4, 3);
            FusedUnit x = Telling.made(form, registers, "");
            int[] bits = new int[registers];
            for (int i = 0; i < registers; i++) {
                bits[i] = form.one() + i - 2;
                x.set(i, bits[i]);
            }
            for (int seed : seeds) {
                for (int many : manies) {
                    int[] due = PlansTests.run(form, bits.clone(), 0, 0, seed, many);
                    for (int what = 0; what < 3; what++) {
                        Checks.due("plans " + seed + " " + many + " " + what, due[what], x.plans(seed, many, what));
                    }
                }
            }
        }
    }

    private static void plansFromNow() {
        for (int what = 0; what < 3; what++) {
            int asked = what;
            int[] due = PlansTests.run(new Oracle(0, 3, 2), new int[] {13, 46, 18}, 3, 8, 1234, 50);
            Edges.refused("plans " + what, due[what], x -> x.plans(1234, 50, asked));
        }
        FusedUnit x = withRegisters(27);
        x.fma(1, 0, 0, 0);
        x.set(0, 0);
        x.set(1, 0);
        Checks.due("the FLAGS that there are", 10, x.plans(0, 1, 0));
        x.clear();
        Checks.due("none", 0, x.plans(0, 1, 0));
        x.set(0, 29);
        Checks.due("what is NAN now", true, x.plans(0, 1, 1) >= 1);
    }

    /** Of one REGISTER all draws below it are 0; the first four of seed 0 are of 0, 21468, 9988, 22117. */
    private static void draws() {
        FusedUnit one = Telling.made("form m plain exp 3 frac 2;reg p;");
        one.set(0, 13);
        Checks.due("1.25 * 1.25 + 1.25", 1, one.plans(0, 1, 2));
        FusedUnit two = Telling.made("form m plain exp 3 frac 2;reg p;reg q;");
        two.set(0, 13);
        two.set(1, 46);
        Checks.due("p p p q: 1.25 * 1.25 - 1.5 is exact", 0, two.plans(0, 1, 2));
        two.set(1, 29);
        Checks.due("it is NAN, and p", 2, two.plans(0, 1, 1));
        FusedUnit three = Telling.made("form m plain exp 3 frac 2;reg p;reg q;reg r;");
        three.set(0, 29);
        three.set(1, 12);
        three.set(2, 13);
        Checks.due("p p q q of three: NAN stays NAN", 1, three.plans(0, 1, 1));
        Oracle form = new Oracle(0, 5, 6);
        FusedUnit six = Telling.made(form, 6, "");
        int[] bits = new int[6];
        for (int i = 0; i < 6; i++) {
            bits[i] = form.one() + 7 * i - 20;
            six.set(i, bits[i]);
        }
        for (int seed = 0; seed < 10000; seed += 97) {
            int[] due = PlansTests.run(form, bits.clone(), 0, 0, seed, 99);
            for (int what = 0; what < 3; what++) {
                Checks.due("plans " + seed + " " + what, due[what], six.plans(seed, 99, what));
            }
        }
    }
}
