import java.util.NoSuchElementException;

/** Runs tests by name, counts them, and tells what was wrong in each. */
final class Checks {
    interface Test {
        void run();
    }

    interface Call {
        long answer();
    }

    private static int passed;
    private static int failed;
    private static int wrong;

    private Checks() {
    }

    static void test(String name, Test test) {
        wrong = 0;
        try {
            test.run();
        } catch (RuntimeException | StackOverflowError thrown) {
            wrong++;
            System.out.println("  thrown: " + thrown + " at " + thrown.getStackTrace()[0]);
        }
        if (wrong == 0) {
            passed++;
        } else {
            failed++;
            System.out.println("FAILED: " + name + " (" + wrong + " wrong)");
        }
    }

    /** A test of a sentence of ../shared/DOC.md that names a boundary case, and of the promise that it belongs to. */
    static void edge(int promise, String sentence, Test test) {
        test("promise " + promise + ", \"" + sentence + "\"", test);
    }

    static void due(String what, long want, long got) {
        if (want != got) {
            wrong++;
            if (wrong <= 10) {
                System.out.println("  " + what + " answered " + got + ", due is " + want);
            }
        }
    }

    static void due(String what, boolean want, boolean got) {
        due(what, want ? 1 : 0, got ? 1 : 0);
    }

    static void refuses(String what, Call call) {
        try {
            long got = call.answer();
            wrong++;
            System.out.println("  " + what + " answered " + got + ", due is NoSuchElementException");
        } catch (NoSuchElementException due) {
            // so it is due
        }
    }

    /** Prints the counts; whether all passed. */
    static boolean end() {
        System.out.println(passed + " passed, " + failed + " failed");
        return failed == 0;
    }
}
