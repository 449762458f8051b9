/** Promises 34 and 35: leading noughts foretold, one place after the other by the document's words. */
final class PrefixTests {
    private PrefixTests() {
    }

    static void run() {
        Checks.test("promise 34: leads", PrefixTests::leads);
        Checks.test("promise 35: off", PrefixTests::off);
        Checks.test("promise 34, 35: leads and off of any", PrefixTests::any);
    }

    private static void leads() {
        FusedUnit x = new FusedUnit();
        long[][] pairs = {{0, 1}, {Long.MIN_VALUE, 0}, {Long.MIN_VALUE, Long.MIN_VALUE}, {3, 0}, {-1, 0}, {-2, 0}, {5, -5}, {5, -4}};
        for (long[] pair : pairs) {
            Checks.due("leads " + pair[0] + " " + pair[1], byWords(pair[0], pair[1]), x.leads(pair[0], pair[1]));
        }
        Checks.due("leads 0 0", 64, x.leads(0, 0));
        Checks.due("leads 1 0", 62, x.leads(1, 0));
        Checks.due("leads -1 1", 64, x.leads(-1, 1));
        Checks.due("leads 4 -1", 61, x.leads(4, -1));
        Checks.due("leads -1 -1", 63, x.leads(-1, -1));
        Checks.due("both have the highest but one", 0, x.leads(1L << 62, 1L << 62));
    }

    private static void off() {
        FusedUnit x = new FusedUnit();
        Checks.due("off 0 0", 0, x.off(0, 0));
        Checks.due("off 1 0", 1, x.off(1, 0));
        Checks.due("off -1 1", 0, x.off(-1, 1));
        Checks.due("off 4 -1", 1, x.off(4, -1));
        Checks.due("off -1 -1", 0, x.off(-1, -1));
        Checks.due("wrapping", 64, x.off(Long.MIN_VALUE, Long.MIN_VALUE));
        Checks.due("to minus", 1, x.off(1L << 62, 1L << 62));
    }

    private static void any() {
        Draws draws = new Draws(34);
        for (int round = 0; round < 20; round++) {
            FusedUnit x = new FusedUnit();
            for (int i = 0; i < 250; i++) {
                long a = draws.next() >> draws.below(64);
                long b = i % 3 == 0 ? draws.next() >> draws.below(64) : i % 3 == 1 ? -a + draws.below(9) - 4 : draws.next() << draws.below(64);
                int leads = byWords(a, b);
                Checks.due("leads " + a + " " + b, leads, x.leads(a, b));
                Checks.due("off " + a + " " + b, alike(a + b) - leads, x.off(a, b));
            }
        }
    }

    private static boolean has(long x, int i) {
        return (x >> i & 1) == 1;
    }

    static int byWords(long x, long y) {
        for (int i = 63; i >= 0; i--) {
            boolean t = i < 63 && has(x, i + 1) != has(y, i + 1);
            boolean g = has(x, i) && has(y, i);
            boolean z = !has(x, i) && !has(y, i);
            boolean gBelow = i > 0 && has(x, i - 1) && has(y, i - 1);
            boolean zBelow = i == 0 || !has(x, i - 1) && !has(y, i - 1);
            boolean foretold = t ? g && !zBelow || z && !gBelow : z && !zBelow || g && !gBelow;
            if (foretold) {
                return 63 - i;
            }
        }
        return 64;
    }

    static int alike(long sum) {
        int many = 0;
        while (many < 64 && has(sum, 63 - many) == has(sum, 63)) {
            many++;
        }
        return many;
    }
}
