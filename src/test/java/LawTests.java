/** Promise 3: the law that is told behind own, as MODE 5 follows it. */
final class LawTests {
    private LawTests() {
    }

    static void run() {
        Checks.test("promise 3: what a law says", LawTests::laws);
        Checks.test("promise 3: without a law it is 0", LawTests::noLaw);
        Checks.test("promise 3: parts within others", LawTests::depth);
        Checks.test("promise 3: a law of a new unit", LawTests::lawOfNewUnit);
    }

    private static void laws() {
        follows("1", (m, o, g, r) -> true);
        follows("0", (m, o, g, r) -> false);
        follows("minus", (m, o, g, r) -> m);
        follows("odd", (m, o, g, r) -> o);
        follows("guard", (m, o, g, r) -> g);
        follows("rest", (m, o, g, r) -> r);
        follows("not minus", (m, o, g, r) -> !m);
        follows("not not 7 = 1", (m, o, g, r) -> true);
        follows("not 0 + not odd < 2", (m, o, g, r) -> o);
        follows("guard and rest", (m, o, g, r) -> g && r);
        follows("guard or odd", (m, o, g, r) -> g || o);
        follows("minus or guard and rest", (m, o, g, r) -> (m || g) && r);
        follows("minus and guard or rest", (m, o, g, r) -> m && g || r);
        follows("minus or (guard and rest)", (m, o, g, r) -> m || g && r);
        follows("guard + rest * 2 - odd", (m, o, g, r) -> n(g) + n(r) * 2 - n(o) != 0);
        follows("guard - rest - odd", (m, o, g, r) -> n(g) - n(r) - n(o) != 0);
        follows("guard - (rest - odd)", (m, o, g, r) -> n(g) - (n(r) - n(o)) != 0);
        follows("guard - rest + odd", (m, o, g, r) -> n(g) - n(r) + n(o) != 0);
        follows("guard + odd < rest * 3", (m, o, g, r) -> n(g) + n(o) < n(r) * 3);
        follows("rest < guard", (m, o, g, r) -> n(r) < n(g));
        follows("minus = odd", (m, o, g, r) -> m == o);
        follows("minus + odd = guard + rest", (m, o, g, r) -> n(m) + n(o) == n(g) + n(r));
        follows("(minus < guard) = rest", (m, o, g, r) -> (n(m) < n(g)) == r);
        follows("3 and 2", (m, o, g, r) -> true);
        follows("(3 and 2) = 1 and (5 or 0) = 1 and not 9 = 0", (m, o, g, r) -> true);
        follows("(2 < 3) + (2 = 2) + (3 < 2) + (3 = 2) = 2", (m, o, g, r) -> true);
        follows("not (guard or rest) or odd", (m, o, g, r) -> o);
        follows("2 * not guard + 3 * not odd = 5", (m, o, g, r) -> !g && !o);
        follows("0 - 1 < 0", (m, o, g, r) -> true);
        String wraps = "9999*9999*9999*9999";
        int wrapped = 9999 * 9999 * 9999 * 9999;
        follows(wraps + " < 0", (m, o, g, r) -> wrapped < 0);
        follows("8192*8192*4096", (m, o, g, r) -> false);
        follows("8192*8192*32 < 0", (m, o, g, r) -> true);
        follows("0 and 0 or 1", (m, o, g, r) -> true);
        follows("1 or 1 and 0", (m, o, g, r) -> false);
        follows("0 - guard + 1", (m, o, g, r) -> !g);
    }

    private static int n(boolean is) {
        return is ? 1 : 0;
    }

    private static void follows(String law, Oracle.Law due) {
        for (int kind = 0; kind < 4; kind++) {
            Oracle oracle = new Oracle(kind, 3, 2, due);
            FusedUnit x = Telling.made(oracle, 0, law);
            Draws draws = new Draws(5);
            for (int i = 0; i < 100; i++) {
                int a = draws.near(oracle);
                int b = draws.bits(oracle);
                int c = draws.near(oracle);
                Checks.due(law + ": sum " + a + " " + b + " " + c, oracle.sum(a, b, c, 5), x.sum(a, b, c, 5));
            }
        }
    }

    private static void noLaw() {
        follows("0", Oracle.NO_LAW);
        Oracle oracle = new Oracle(0, 3, 2);
        FusedUnit x = Telling.made(oracle, 0, "");
        Checks.due("inexact", 14, x.sum(13, 13, 0, 5));
        Checks.due("beyond", 27, x.sum(27, 27, 0, 5));
        Checks.due("beyond, minus", 59, x.sum(59, 27, 0, 5));
    }

    private static void depth() {
        String[] texts = {"own not not not not 1;", "own ((((1))));", "own not ( not ( 1 ) );", "own not not not not (1);",
            "own not not not not not 1;", "own (((((1)))));", "own ((((not 1))));", "own not not not not not not 1;",
            "own ((((((1))))));", "own not not not not not;", "own (((((;", "own ((((1)))) + ((((1))));", "own (((((odd", "own ((((not p",
            "own not(not(not odd))", "own not(not(not(2)))*(1 and (1 and (1 and (1 and 1))));",
            "own 1 and (1 and (1 and (1 and (1 and (1))))) ;"};
        int[] due = {0, 0, 0, Telling.fault(5, 21), Telling.fault(5, 24), Telling.fault(5, 9), Telling.fault(5, 12), Telling.fault(5, 24),
            Telling.fault(5, 9), Telling.fault(1, 23), Telling.fault(1, 9), 0, Telling.fault(5, 9), Telling.fault(1, 12),
            Telling.fault(5, 16), Telling.fault(5, 15), Telling.fault(5, 39)};
        for (int i = 0; i < texts.length; i++) {
            Checks.due(texts[i], due[i], Telling.unit(new FusedUnit(), texts[i]));
        }
    }

    private static void lawOfNewUnit() {
        FusedUnit x = Telling.made(new Oracle(0, 3, 2), 1, "1");
        Checks.due("up", 15, x.sum(13, 13, 0, 5));
        Checks.due("fault", Telling.fault(1, 7), Telling.unit(x, "own 0; 1"));
        Checks.due("still up", 15, x.sum(13, 13, 0, 5));
        Checks.due("plan", 0, Telling.plan(x, "mode 5; fma a a a a;"));
        Checks.due("other law", 0, Telling.unit(x, "own 0; form z plain exp 3 frac 2;"));
        Checks.due("down", 14, x.sum(13, 13, 0, 5));
    }
}
