import java.io.IOException;
import java.nio.file.Files;
import java.nio.file.Path;
import java.util.List;
import java.util.NoSuchElementException;

/** The example in README.md answers as it tells; .ci/run starts the tests where README.md stands. */
final class ReadmeTests {
    private static final String UNIT = "form m plain exp 3 frac 2 ; form w whole exp 2 frac 1 ; reg p ; reg q ; "
            + "own guard and not minus ;";
    private static final String PLAN = "fma q p p q ; mode 5 ; fma q p p q ; use w ;";

    private ReadmeTests() {
    }

    static void run() {
        Checks.test("README: its example answers as it tells", ReadmeTests::example);
    }

    private static void example() {
        List<String> lines = lines();
        String all = String.join("\n", lines).replace("\"\n            + \"", "");
        Checks.due("the text of the unit", true, all.contains('"' + UNIT + '"'));
        Checks.due("the text of the plan", true, all.contains('"' + PLAN + '"'));
        FusedUnit x = new FusedUnit();
        int tried = 0;
        for (String line : lines) {
            if (isRow(line)) {
                String call = line.substring(0, line.indexOf(';')).trim();
                String answer = line.substring(line.indexOf("// ") + 3).split("[ ,:]")[0];
                Checks.due(call + " answers " + answer, true, answer.equals(answered(x, call)));
                tried++;
            }
        }
        Checks.due("rows of the example", 22, tried);
    }

    private static boolean isRow(String line) {
        return line.startsWith("    x.") || line.startsWith("    tell(x, ");
    }

    private static List<String> lines() {
        try {
            return Files.readAllLines(Path.of("README.md"));
        } catch (IOException missing) {
            throw new IllegalStateException("README.md can't be read from " + Path.of("").toAbsolutePath());
        }
    }

    private static String answered(FusedUnit x, String call) {
        try {
            return plainly(x, call);
        } catch (NoSuchElementException refused) {
            return "NoSuchElementException";
        }
    }

    private static String plainly(FusedUnit x, String call) {
        switch (call) {
            case "tell(x, unitText)":
                return "" + Telling.feed(x, UNIT);
            case "tell(x, planText)":
                return "" + Telling.feed(x, PLAN);
            case "tell(x, \"reg p\")":
                return "" + Telling.feed(x, "reg p");
            case "x.unit()":
                return "" + x.unit();
            case "x.plan()":
                return "" + x.plan();
            case "x.set(0, 13)":
                return "" + x.set(0, 13);
            case "x.fma(1, 0, 0, 0)":
                return "" + x.fma(1, 0, 0, 0);
            case "x.reg(0)":
                return "" + x.reg(0);
            case "x.reg(1)":
                return "" + x.reg(1);
            case "x.undo()":
                return "" + x.undo();
            case "x.fma(1, 0, 0, 6)":
                return "" + x.fma(1, 0, 0, 6);
            case "x.order(64, 0)":
                return "" + x.order(64, 0);
            case "x.exact(64, 0, 0)":
                return "" + x.exact(64, 0, 0);
            case "x.whole(28)":
                return "" + x.whole(28);
            case "x.sum(13, 13, 0, 3)":
                return "" + x.sum(13, 13, 0, 3);
            case "x.into(1, 13)":
                return "" + x.into(1, 13);
            case "x.judged(1)":
                return "" + x.judged(1);
            case "x.see(44, true)":
                return "" + x.see(44, true);
            case "x.fit()":
                return "" + x.fit();
            case "x.least()":
                return "" + x.least();
            default:
                throw new IllegalArgumentException("a call of README.md that is not tried: " + call);
        }
    }
}
