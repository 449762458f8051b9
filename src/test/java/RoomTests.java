import java.lang.management.ManagementFactory;

/** All calls of one run live in one room: what a call makes is counted. */
final class RoomTests {
    private RoomTests() {
    }

    static void run() {
        Checks.test("room: the dearest calls of a run make nothing", RoomTests::dearest);
        Checks.test("room: a run of texts keeps small", RoomTests::texts);
    }

    private static long made() {
        com.sun.management.ThreadMXBean bean = (com.sun.management.ThreadMXBean) ManagementFactory.getThreadMXBean();
        return bean.getThreadAllocatedBytes(Thread.currentThread().getId());
    }

    private static void dearest() {
        made();
        FusedUnit x = Telling.made("form m plain exp 5 frac 4; form n plain exp 5 frac 4; reg p; reg q;");
        long before = made();
        for (int i = 0; i < 45; i++) {
            x.see(0, true);
            x.fit();
            x.exacts(500, 500);
            x.inverse(500);
            x.root(500);
            x.plans(i, 99, 0);
            x.fma(0, 1, 0, 1);
            x.set(0, i);
            x.use(i & 1);
            x.undo();
        }
        Checks.due("less than 64 kB in 450 calls", true, made() - before < 65536);
    }

    private static void texts() {
        made();
        long before = made();
        FusedUnit x = new FusedUnit();
        for (int i = 0; i < 60; i++) {
            Telling.unit(x, "form m plain exp 5 frac 4; form n plain exp 5 frac 4; reg p; reg q; own odd and rest;");
            Telling.plan(x, "fma p q p q; mode 3; use n;");
        }
        Checks.due("less than 1 MB in 480 calls", true, made() - before < 1 << 20);
    }
}
