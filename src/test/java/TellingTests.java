/** Promises 1 to 5 and 54: what is told by texts, and what can be counted of it. */
final class TellingTests {
    private TellingTests() {
    }

    static void run() {
        Checks.test("promise 1: a new object has nothing", TellingTests::newObject);
        Checks.test("promise 1: a new object refuses what needs a form", TellingTests::newObjectRefuses);
        Checks.test("promise 2: feed takes bytes, the highest first", TellingTests::feedOrder);
        Checks.test("promise 2: feed leaves out other signs", TellingTests::feedOtherSigns);
        Checks.test("promise 2: feed leaves out what is beyond 1,000", TellingTests::feedBeyond);
        Checks.test("promise 3: a unit is told", TellingTests::unitTold);
        Checks.test("promise 3: tokens need no blanks, and take them all", TellingTests::tokens);
        Checks.test("promise 3: faults of tokens", TellingTests::tokenFaults);
        Checks.test("promise 3: faults of forms", TellingTests::formFaults);
        Checks.test("promise 3: faults of registers", TellingTests::registerFaults);
        Checks.test("promise 3: names", TellingTests::names);
        Checks.test("promise 3: all stays after a fault, but the tape is read", TellingTests::faultLeavesAll);
        Checks.test("promise 3: a unit begins anew", TellingTests::unitBeginsAnew);
        Checks.test("promise 3: one unit behind the other", TellingTests::unitsInTurn);
        Checks.test("promise 3: a unit of nothing", TellingTests::emptyUnit);
        Checks.test("promise 4: a plan is told", TellingTests::planTold);
        Checks.test("promise 4: faults of plans", TellingTests::planFaults);
        Checks.test("promise 4: 30 lines and a 31st", TellingTests::planTooLong);
        Checks.test("promise 5: forms", TellingTests::forms);
        Checks.test("promise 54: counts", TellingTests::counts);
    }

    private static void newObject() {
        FusedUnit x = new FusedUnit();
        int[] due = {0, 0, -1, 0, 0, 0, 0, 0, 0};
        for (int what = 0; what < due.length; what++) {
            Checks.due("count " + what, due[what], x.count(what));
        }
        Checks.due("asked", 0, x.asked());
        Checks.due("results", 0, x.results());
        Checks.due("undo", false, x.undo());
        for (int mark = 0; mark < 4; mark++) {
            Checks.due("mark " + mark, false, x.mark(mark, true));
        }
        Checks.due("judged 0", -1, x.judged(0));
        Checks.due("judged 1", 0, x.judged(1));
        Checks.due("judged 2", 0, x.judged(2));
        Checks.due("NONE", -1, FusedUnit.NONE);
    }

    private static void newObjectRefuses() {
        FusedUnit x = new FusedUnit();
        refusesWithoutForm(x);
        Checks.due("registers alone", 0, Telling.unit(x, "reg p ; reg q ;"));
        Checks.due("registers", 2, x.count(1));
        refusesWithoutForm(x);
    }

    private static void refusesWithoutForm(FusedUnit x) {
        Checks.due("form", -1, x.form(0, 0));
        Checks.due("reg", -1, x.reg(0));
        Checks.due("set", -1, x.set(0, 0));
        Checks.due("fma", -1, x.fma(0, 0, 0, 0));
        Checks.due("use", -1, x.use(0));
        Checks.due("sort", -1, x.sort(0));
        Checks.due("order", -2, x.order(0, 0));
        Checks.due("above", -1, x.above(0));
        Checks.due("below", -1, x.below(0));
        Checks.due("sum", -1, x.sum(0, 0, 0, 0));
        Checks.due("marks", -1, x.marks(0, 0, 0, 0));
        Checks.due("exact", false, x.exact(0, 0, 0));
        Checks.due("spread", -1, x.spread(0, 0, 0));
        Checks.due("twice", false, x.twice(0, 0, 0));
        Checks.due("remains", -1, x.remains(0, 0));
        Checks.due("half", false, x.half(0, 0, 0));
        Checks.due("part", -1, x.part(0, 0));
        Checks.due("join", -1, x.join(0, 0, 0));
        Checks.due("scale", -1, x.scale(0, 0));
        Checks.due("side", -2, x.side(0, 0, 0, 0));
        Checks.due("apart", -1, x.apart(0, 0));
        Checks.due("poly", -1, x.poly(0, 0));
        Checks.due("total", -1, x.total());
        Checks.due("settles", -1, x.settles(0, 0, 0, 0));
        Checks.refuses("gap", () -> x.gap(1, 1, 1));
        Checks.refuses("whole", () -> x.whole(0));
        Checks.due("of", -1, x.of(0));
        Checks.due("into", -1, x.into(0, 0));
        Checks.due("exacts", -1, x.exacts(0, 0));
        Checks.due("swallows", -1, x.swallows(0, 0));
        Checks.due("raises", -1, x.raises(0, 0, 1));
        Checks.due("ties", -1, x.ties(0, 0));
        Checks.due("root", -1, x.root(0));
        Checks.due("inverse", -1, x.inverse(0));
        Checks.due("often", -1, x.often(0));
        Checks.due("times", -1, x.times(0, 0, 0, 0));
        Checks.due("see", false, x.see(0, true));
        Checks.due("fit", -1, x.fit());
        Checks.due("least", -1, x.least());
        Checks.due("plans", -1, x.plans(0, 1, 0));
    }

    private static void feedOrder() {
        FusedUnit x = new FusedUnit();
        Checks.due("24 signs", 24, x.feed(Telling.eight("reg abcd", 0), Telling.eight("efg;reg ", 0), Telling.eight("n ; add ", 0)));
        Checks.due("behind it", 25, x.feed(0x3bL, 0, 0));
        Checks.due("the unit's fault", Telling.fault(1, 20), x.unit());
        x.feed(Telling.eight("reg abcd", 0), Telling.eight("efgh;reg", 0), Telling.eight(" abcdefg", 0));
        x.feed(Telling.eight("h;", 0), 0, 0);
        Checks.due("one name twice", Telling.fault(3, 17), x.unit());
    }

    private static void feedOtherSigns() {
        FusedUnit x = new FusedUnit();
        Checks.due("none of them", 0, x.feed(0x0001091f7f80ffL, 0x0b0c0d0e0f1011fFL, 0L));
        Checks.due("10, 32 and 126", 3, x.feed(0x0a00000020000000L, 0x7eL, 0x1f00000000000000L));
        Checks.due("the blanks stay blanks", Telling.fault(1, 2), x.unit());
        Checks.due("signs of high bytes", 2, x.feed(0x41L, -1L, 0xC100000000000042L));
        Checks.due("capitals are none", Telling.fault(1, 0), x.plan());
    }

    private static void feedBeyond() {
        FusedUnit x = new FusedUnit();
        for (int i = 1; i <= 41; i++) {
            Checks.due("feed " + i, 24 * i, x.feed(0x2020202020202020L, 0x2020202020202020L, 0x2020202020202020L));
        }
        Checks.due("the 1,000th", 1000, x.feed(0x2020202020202020L, Telling.eight("       !", 0), Telling.eight("!       ", 0)));
        Checks.due("full", 1000, x.feed(0x2020202020202020L, 0, 0));
        Checks.due("count", 1000, x.count(8));
        Checks.due("the last sign", Telling.fault(1, 999), x.unit());
        Checks.due("empty", 0, x.count(8));
        for (int i = 1; i <= 42; i++) {
            x.feed(0x2020202020202020L, 0x2020202020202020L, 0x2020202020202020L);
        }
        Checks.due("1,000 blanks", 0, x.unit());
    }

    private static void unitTold() {
        FusedUnit x = new FusedUnit();
        Checks.due("unit", 0, Telling.unit(x, Telling.SMALL));
        Checks.due("forms", 4, x.count(0));
        Checks.due("registers", 3, x.count(1));
        Checks.due("form in use", 0, x.count(2));
        Checks.due("tape", 0, x.count(8));
        for (int i = 0; i < 3; i++) {
            Checks.due("register " + i, 0, x.reg(i));
        }
        Checks.due("other unit", 0, Telling.unit(x, "own 1; reg a; form z whole exp 2 frac 1; reg b; form y sat exp 8 frac 18;"));
        Checks.due("forms", 2, x.count(0));
        Checks.due("registers", 2, x.count(1));
        Checks.due("first kind", 3, x.form(0, 0));
        Checks.due("second kind", 2, x.form(1, 0));
    }

    private static void tokens() {
        FusedUnit x = new FusedUnit();
        Checks.due("no blanks", 0, Telling.unit(x, "form m plain exp3frac2;reg p;own(1<2)*3-4+5=6or not 7and odd;"));
        Checks.due("a letter behind a number", 2, x.form(0, 2));
        Checks.due("new lines", 0, Telling.unit(x, "\n form\nm \n plain exp\n8frac 18\n;\n\n"));
        Checks.due("exponent", 8, x.form(0, 1));
        Checks.due("four digits", 0, Telling.unit(x, "form m sat exp 0003 frac 0018;own 9999;"));
        Checks.due("fraction", 18, x.form(0, 2));
        Checks.due("five digits", Telling.fault(1, 15), Telling.unit(x, "form m sat exp 00003 frac 2;"));
        Checks.due("words can't stand together", Telling.fault(1, 0), Telling.unit(x, "regp;"));
        Checks.due("eight letters", 0, Telling.unit(x, "reg abcdefgh;"));
        Checks.due("nine letters", Telling.fault(1, 5), Telling.unit(x, "reg  abcdefghi;"));
        Checks.due("eight letters that differ", 0, Telling.unit(x, "reg abcdefgh;reg bbcdefgh;reg abcdefgi;reg abcdefg;"));
    }

    private static void tokenFaults() {
        String[] wrong = {"!", "A", "form m plain exp 3 frac 2 , ", "reg p:", "reg p ; .", "reg _", "own [1];", "own 1 > 2;",
            "own 1 / 2;", "reg P;", "reg p ; 1", "reg p ;;", "form m plain exp 3 frac 2 ; reg", "own", "own (1;", "own 1);", "reg 1",
            "form m plain exp -3", "plan", "fma", "mode 1;", "clear;", "use m;", "own - 1;", "own 1 2;", "own not;", "own ();",
            "own 1 + ;", "own 1 and ;", "own p;", "own 1 < 2 = 3;", "own 1 or", "own (1", "own 00001;"};
        int[] places = {0, 0, 26, 5, 8, 4, 4, 6, 6, 4, 8, 7, 31, 3, 6, 5, 4, 17, 0, 0, 0, 0, 0, 4, 6, 7, 5, 8, 10, 4, 10, 8, 6, 4};
        for (int i = 0; i < wrong.length; i++) {
            Checks.due(wrong[i], Telling.fault(1, places[i]), Telling.unit(new FusedUnit(), wrong[i]));
        }
        Checks.due("blanks at the end", Telling.fault(1, 8), Telling.unit(new FusedUnit(), "reg p   "));
    }

    private static void formFaults() {
        String[] texts = {"form m", "form m plai exp 3 frac 2;", "form m plain frac 2;", "form m plain exp 3;", "form m plain exp 3 frac 2",
            "form m plain exp 1 frac 2;", "form m plain exp 9 frac 2;", "form m plain exp 2 frac 0;", "form m plain exp 8 frac 19;",
            "form m plain exp 9999 frac 2;", "form form plain", "form m plain exp 8 frac 18 reg", "form 3 plain",
            "form m plain 3 frac 2;", "form m plain exp 3 2;", "form m exp 3 frac 2;", "form m plain exp frac 2;", "form m plain exp 3 frac ;",
            "form plain exp 3 frac 2;", "form m plain exp exp 3 frac 2;", "form m plain frac 2 exp 3;", "form m sat sat exp 3 frac 2;"};
        int[] due = {Telling.fault(1, 6), Telling.fault(1, 7), Telling.fault(1, 13), Telling.fault(1, 18), Telling.fault(1, 25),
            Telling.fault(4, 17), Telling.fault(4, 17), Telling.fault(4, 24), Telling.fault(4, 24),
            Telling.fault(4, 17), Telling.fault(1, 5), Telling.fault(1, 27), Telling.fault(1, 5),
            Telling.fault(1, 13), Telling.fault(1, 19), Telling.fault(1, 7), Telling.fault(1, 17), Telling.fault(1, 24),
            Telling.fault(1, 5), Telling.fault(1, 17), Telling.fault(1, 13), Telling.fault(1, 11)};
        for (int i = 0; i < texts.length; i++) {
            Checks.due(texts[i], due[i], Telling.unit(new FusedUnit(), texts[i]));
        }
        String four = "form a sat exp 2 frac 1;form b sat exp 2 frac 1;form c sat exp 2 frac 1;form d sat exp 2 frac 1;";
        Checks.due("four forms", 0, Telling.unit(new FusedUnit(), four));
        Checks.due("a fifth one", Telling.fault(5, four.length()), Telling.unit(new FusedUnit(), four + "form !"));
        Checks.due("no fifth one", Telling.fault(1, four.length()), Telling.unit(new FusedUnit(), four + "forms"));
    }

    private static void registerFaults() {
        String six = "reg a;reg b;reg c;reg d;reg e;reg f;";
        FusedUnit x = new FusedUnit();
        Checks.due("six registers", 0, Telling.unit(x, six));
        Checks.due("count", 6, x.count(1));
        Checks.due("a seventh one", Telling.fault(5, six.length()), Telling.unit(x, six + "reg a;"));
        Checks.due("twice", Telling.fault(3, 10), Telling.unit(x, "reg a;reg a;"));
        Checks.due("as a form is named", Telling.fault(3, 28), Telling.unit(x, "form a sat exp 2 frac 1;reg a"));
        Checks.due("a form as a register is", Telling.fault(3, 11), Telling.unit(x, "reg a;form a"));
        Checks.due("two forms", Telling.fault(3, 29), Telling.unit(x, "form a sat exp 2 frac 1;form a"));
        Checks.due("an own one twice", Telling.fault(3, 6), Telling.unit(x, "own 1;own 2;"));
        Checks.due("no end", Telling.fault(1, 6), Telling.unit(x, "reg a reg b;"));
    }

    private static void names() {
        String[] none = {"form", "exp", "frac", "reg", "own", "fma", "mode", "clear", "use", "plain", "flush", "sat", "whole",
            "not", "and", "or"};
        for (String name : none) {
            Checks.due("reg " + name, Telling.fault(1, 4), Telling.unit(new FusedUnit(), "reg " + name + ";"));
            Checks.due("form " + name, Telling.fault(1, 5), Telling.unit(new FusedUnit(), "form " + name + " sat exp 2 frac 1;"));
            FusedUnit x = Telling.made(Telling.SMALL);
            Checks.due("fma " + name, Telling.fault(1, 4), Telling.plan(x, "fma " + name));
            Checks.due("use " + name, Telling.fault(1, 4), Telling.plan(x, "use " + name));
        }
        String[] some = {"minus", "odd", "guard", "rest", "unit", "plan", "forms", "regs", "z", "no", "an", "ore"};
        for (String name : some) {
            Checks.due("reg " + name, 0, Telling.unit(new FusedUnit(), "reg " + name + ";"));
            Checks.due("form " + name, 0, Telling.unit(new FusedUnit(), "form " + name + " sat exp 2 frac 1;"));
        }
    }

    private static void faultLeavesAll() {
        FusedUnit x = Telling.made(Telling.SMALL);
        x.set(0, 13);
        x.mode(3);
        x.fma(1, 0, 0, 0);
        Telling.plan(x, "clear; mode 2;");
        x.mark(1, false);
        x.see(12, true);
        Checks.due("fault", Telling.fault(1, 14), Telling.unit(x, "reg a; reg b; 1"));
        Checks.due("plan's fault", Telling.fault(2, 12), Telling.plan(x, "mode 3; fma a"));
        int[] due = {4, 3, 0, 3, 8, 2, 1, 3, 0};
        for (int what = 0; what < due.length; what++) {
            Checks.due("count " + what, due[what], x.count(what));
        }
        Checks.due("register", 13, x.reg(0));
        Checks.due("asked", 1, x.asked());
        Checks.due("results", 1, x.results());
        Checks.due("the plan", 0, x.judged(1));
        Checks.due("kind of the second form", 1, x.form(1, 0));
        Checks.due("the names", 0, Telling.plan(x, "fma p q r p; use w;"));
        Checks.due("mark", true, x.mark(1, true));
    }

    private static void unitBeginsAnew() {
        FusedUnit x = Telling.made("own 1;" + Telling.SMALL);
        x.set(0, 13);
        x.mode(5);
        x.fma(1, 0, 0, 0);
        x.use(2);
        Telling.plan(x, "clear; mode 2;");
        x.mark(1, false);
        x.see(12, true);
        Checks.due("unit", 0, Telling.unit(x, Telling.SMALL));
        int[] due = {4, 3, 0, 0, 0, 0, 0, 0, 0};
        for (int what = 0; what < due.length; what++) {
            Checks.due("count " + what, due[what], x.count(what));
        }
        Checks.due("register 0", 0, x.reg(0));
        Checks.due("register 1", 0, x.reg(1));
        Checks.due("asked", 0, x.asked());
        Checks.due("often", -1, x.often(0));
        Checks.due("results", 0, x.results());
        Checks.due("times", 0, x.times(13, 13, 13, 5));
        Checks.due("undo", false, x.undo());
        Checks.due("mark", false, x.mark(1, true));
        Checks.due("no law", 14, x.sum(13, 13, 0, 5));
    }

    private static void unitsInTurn() {
        FusedUnit x = Telling.made("own 1; form a sat exp 3 frac 2; form b sat exp 3 frac 2; reg p; reg q;");
        x.set(0, 12);
        x.fma(1, 0, 0, 0);
        x.fma(1, 0, 0, 0);
        Checks.due("asked twice", 2, x.often(0));
        Checks.due("the next one", 0, Telling.unit(x, "own 1; form b plain exp 3 frac 2; reg q;"));
        Checks.due("not told of it", Telling.fault(2, 4), Telling.plan(x, "use a;"));
        Checks.due("not told of it", Telling.fault(2, 4), Telling.plan(x, "fma p"));
        Checks.due("the third one", 0, Telling.unit(x, "form a plain exp 3 frac 2; reg r;"));
        Checks.due("its forms alone", -1, x.form(1, 0));
        Checks.due("its forms alone", -1, x.use(1));
        Checks.due("its forms alone", -1, x.into(1, 0));
        Checks.due("its registers alone", -1, x.reg(1));
        Checks.due("not told of it", Telling.fault(2, 4), Telling.plan(x, "use b;"));
        Checks.due("not told of it", Telling.fault(2, 4), Telling.plan(x, "fma p"));
        Checks.due("no law", 14, x.sum(13, 13, 0, 5));
        x.set(0, 12);
        x.fma(0, 0, 0, 0);
        Checks.due("asked anew", 1, x.asked());
        Checks.due("so often", 1, x.often(0));
        x.undo();
        Checks.due("not asked", 0, x.asked());
    }

    private static void emptyUnit() {
        FusedUnit x = Telling.made(Telling.SMALL);
        x.mode(3);
        x.mark(0, false);
        Checks.due("nothing told", 0, x.unit());
        Checks.due("forms", 0, x.count(0));
        Checks.due("registers", 0, x.count(1));
        Checks.due("form in use", -1, x.count(2));
        Checks.due("mode", 0, x.count(3));
        Checks.due("undone", 0, x.count(7));
        Checks.due("mark", false, x.mark(0, true));
        refusesWithoutForm(x);
    }

    private static void planTold() {
        FusedUnit x = Telling.made(Telling.SMALL);
        Checks.due("plan", 0, Telling.plan(x, "mode 1 ; fma p q q r ; clear ; use n ; fma p p p p ;"));
        Checks.due("lines", 5, x.count(5));
        Checks.due("tape", 0, x.count(8));
        Checks.due("another one", 0, Telling.plan(x, "clear;clear;"));
        Checks.due("lines", 2, x.count(5));
        Checks.due("nothing undone by it", 0, x.count(7));
        Checks.due("no lines", 0, Telling.plan(x, " "));
        Checks.due("lines", 0, x.count(5));
        FusedUnit bare = new FusedUnit();
        Checks.due("without a unit", 0, Telling.plan(bare, "mode 0;mode 5;clear;"));
        Checks.due("lines", 3, bare.count(5));
    }

    private static void planFaults() {
        String[] texts = {"add", "form", "own 1;", "reg p;", "fma p q r", "fma p q r;", "fma p q r z;", "fma m p p p;", "fma p m p p;",
            "fma p p p m;", "use p;", "use z;", "use 1;", "use", "mode 6;", "mode m;", "mode -1;", "mode", "clear p;", "clear",
            "fma p q r p p;", "mode 5 5;", "mode 1000;", "mode 10000;", "clear;!", "fma p q 1 p;", "clear;;", "mode ;", "use ;", "fma ;"};
        int[] due = {Telling.fault(1, 0), Telling.fault(1, 0), Telling.fault(1, 0), Telling.fault(1, 0), Telling.fault(1, 9),
            Telling.fault(1, 9), Telling.fault(2, 10), Telling.fault(2, 4), Telling.fault(2, 6), Telling.fault(2, 10),
            Telling.fault(2, 4), Telling.fault(2, 4), Telling.fault(1, 4), Telling.fault(1, 3), Telling.fault(4, 5),
            Telling.fault(1, 5), Telling.fault(1, 5), Telling.fault(1, 4), Telling.fault(1, 6), Telling.fault(1, 5),
            Telling.fault(1, 12), Telling.fault(1, 7), Telling.fault(4, 5), Telling.fault(1, 5), Telling.fault(1, 6),
            Telling.fault(1, 8), Telling.fault(1, 6), Telling.fault(1, 5), Telling.fault(1, 4), Telling.fault(1, 4)};
        for (int i = 0; i < texts.length; i++) {
            FusedUnit x = Telling.made(Telling.SMALL);
            Checks.due(texts[i], due[i], Telling.plan(x, texts[i]));
            Checks.due("no plan", 0, x.count(5));
            Checks.due("tape", 0, x.count(8));
        }
        Checks.due("no names", Telling.fault(2, 4), Telling.plan(new FusedUnit(), "fma p p p p;"));
        Checks.due("no forms", Telling.fault(2, 4), Telling.plan(new FusedUnit(), "use m;"));
    }

    private static void planTooLong() {
        StringBuilder lines = new StringBuilder();
        for (int i = 0; i < 30; i++) {
            lines.append(i % 3 == 0 ? "clear;" : i % 3 == 1 ? "mode 3;" : "fma p q r p;");
        }
        FusedUnit x = Telling.made(Telling.SMALL);
        Checks.due("30 lines", 0, Telling.plan(x, lines.toString()));
        Checks.due("count", 30, x.count(5));
        String[] words = {"clear", "mode", "fma", "use"};
        for (String word : words) {
            Checks.due("31 lines, " + word, Telling.fault(5, lines.length()), Telling.plan(x, lines + word + " 9"));
        }
        Checks.due("no line", Telling.fault(1, lines.length()), Telling.plan(x, lines + "own"));
        Checks.due("count", 30, x.count(5));
    }

    private static void forms() {
        FusedUnit x = Telling.made(Telling.SMALL);
        int[][] due = {{0, 3, 2, 3, 27, 30}, {1, 3, 2, 3, 27, 30}, {2, 3, 2, 3, 27, 30}, {3, 2, 1, 1, 7, -1}};
        for (int form = 0; form < 4; form++) {
            for (int what = 0; what < 6; what++) {
                Checks.due("form " + form + " " + what, due[form][what], x.form(form, what));
            }
            Checks.due("form " + form + " -1", -1, x.form(form, -1));
            Checks.due("form " + form + " 6", -1, x.form(form, 6));
        }
        Checks.due("form -1", -1, x.form(-1, 0));
        Checks.due("form 4", -1, x.form(4, 0));
        FusedUnit one = Telling.made("form z plain exp 8 frac 18;");
        int[] large = {0, 8, 18, 127, (255 << 18) - 1, (255 << 18) + (1 << 17)};
        for (int what = 0; what < 6; what++) {
            Checks.due("large " + what, large[what], one.form(0, what));
        }
        Checks.due("form 1", -1, one.form(1, 0));
        Checks.due("least", (3 << 1) + 1, Telling.made("form z sat exp 2 frac 1;").form(0, 5));
    }

    private static void counts() {
        FusedUnit x = Telling.made(Telling.SMALL);
        x.mode(4);
        x.set(0, 13);
        x.fma(1, 0, 0, 0);
        x.see(1, true);
        x.see(1, true);
        Telling.plan(x, "clear;");
        Telling.feed(x, "abcd");
        int[] due = {4, 3, 0, 4, 8, 1, 2, 3, 4};
        for (int what = 0; what < due.length; what++) {
            Checks.due("count " + what, due[what], x.count(what));
        }
        Checks.due("count 9", -1, x.count(9));
        Checks.due("count -1", -1, x.count(-1));
        Checks.due("count of the least int", -1, x.count(Integer.MIN_VALUE));
        x.use(3);
        Checks.due("form in use", 3, x.count(2));
    }
}
