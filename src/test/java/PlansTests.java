/** Promise 52: plans by draws. */
final class PlansTests {
    private PlansTests() {
    }

    static void run() {
        Checks.test("promise 52: plans by the words", PlansTests::any);
        Checks.test("promise 52: one that is known", PlansTests::known);
        Checks.test("promise 52: from now on, and all stays", PlansTests::stays);
        Checks.test("promise 52: refusals", PlansTests::refusals);
    }

    private static long state;

    private static int draw(int below) {
        state = (state * 1103515245L + 12345L) % 2147483648L;
        return (int) (state / 65536 % below);
    }

    static int[] run(Oracle form, int[] registers, int startMode, int startFlags, int seed, int many) {
        state = seed;
        int mode = startMode;
        int flags = startFlags;
        int inexact = 0;
        for (int i = 0; i < many; i++) {
            int into = draw(registers.length);
            int a = draw(registers.length);
            int b = draw(registers.length);
            int c = draw(registers.length);
            registers[into] = form.sum(registers[a], registers[b], registers[c], mode);
            flags |= form.flags;
            inexact += (form.flags & 8) / 8;
            mode = draw(6);
        }
        int nans = 0;
        for (int register : registers) {
            nans += form.isNan(register) ? 1 : 0;
        }
        return new int[] {flags, nans, inexact};
    }

    private static void any() {
        Draws draws = new Draws(52);
        for (Oracle form : NumberTests.both()) {
            for (int registers = 1; registers <= 6; registers++) {
                FusedUnit x = Telling.made(form, registers, "guard");
                Oracle same = new Oracle(form.kind, form.x, form.f, (minus, odd, guard, rest) -> guard);
                int[] bits = new int[registers];
                for (int i = 0; i < 12; i++) {
                    int changed = draws.below(registers);
                    bits[changed] = i % 5 == 0 ? draws.bits(form) : draws.near(form);
                    x.set(changed, bits[changed]);
                    int mode = draws.below(6);
                    x.mode(mode);
                    int seed = i == 0 ? 0 : i == 1 ? 9999 : draws.below(10000);
                    int many = i == 0 ? 1 : i == 1 ? 99 : 1 + draws.below(i % 2 == 0 ? 99 : 6);
                    int[] due = run(same, bits.clone(), mode, 0, seed, many);
                    for (int what = 0; what < 3; what++) {
                        Checks.due("plans " + seed + " " + many + " " + what, due[what], x.plans(seed, many, what));
                    }
                }
            }
        }
    }

    /** By hand: seed 0 draws 0, 21468 % 2, 9988 % 2, 22117 % 2 of two registers: FMA p p p q. */
    private static void known() {
        FusedUnit x = Telling.made("form m plain exp 3 frac 2; reg p; reg q;");
        x.set(0, 13);
        x.set(1, 46);
        Checks.due("1.25 * 1.25 - 1.5 is exact", 0, x.plans(0, 1, 2));
        x.set(1, 12);
        Checks.due("1.25 * 1.25 + 1 is not", 1, x.plans(0, 1, 2));
        x.set(0, 29);
        Checks.due("NAN", 1, x.plans(0, 1, 1));
        Checks.due("no flags", 0, x.plans(0, 1, 0));
    }

    private static void stays() {
        FusedUnit x = Telling.made("form m plain exp 3 frac 2; reg p; reg q;");
        x.set(0, 27);
        x.set(1, 13);
        x.fma(1, 1, 1, 1);
        Checks.due("flags", 8, x.count(4));
        x.mode(4);
        int[] due = run(new Oracle(0, 3, 2), new int[] {27, 18}, 4, 8, 77, 20);
        for (int what = 0; what < 3; what++) {
            Checks.due("plans", due[what], x.plans(77, 20, what));
        }
        Checks.due("register", 27, x.reg(0));
        Checks.due("register", 18, x.reg(1));
        Checks.due("mode", 4, x.count(3));
        Checks.due("flags", 8, x.count(4));
        Checks.due("asked", 1, x.asked());
        Checks.due("changes", 4, x.count(7));
        x.set(0, 0);
        x.set(1, 0);
        Checks.due("the flags that there were", 8, x.plans(5, 5, 0));
        Checks.due("none is inexact", 0, x.plans(5, 5, 2));
    }

    private static void refusals() {
        FusedUnit x = Telling.made("form m plain exp 3 frac 2; reg p;");
        int[][] others = {{-1, 1, 0}, {10000, 1, 0}, {0, 0, 0}, {0, 100, 0}, {0, -1, 0}, {0, 1, 3}, {0, 1, -1}, {Integer.MIN_VALUE, 1, 0},
            {0, Integer.MAX_VALUE, 0}};
        for (int[] row : others) {
            Checks.due("plans " + row[0] + " " + row[1] + " " + row[2], -1, x.plans(row[0], row[1], row[2]));
        }
        Checks.due("the edges", 0, x.plans(0, 1, 0) + x.plans(9999, 99, 1));
        Checks.due("no registers", -1, Telling.made("form m plain exp 3 frac 2;").plans(0, 1, 0));
        Checks.due("no form", -1, Telling.made("reg p;").plans(0, 1, 0));
    }
}
