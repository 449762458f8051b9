/** Edges of what is told by texts: the sentences of term 1, and of promises 1 to 5 and 54, that name a boundary case. */
final class TellingEdges {
    private static final String FORM = "form m plain exp 3 frac 2;";

    private TellingEdges() {
    }

    static void run() {
        Checks.edge(1, "At first: nothing (no FORM).", TellingEdges::atFirst);
        tape();
        tokens();
        units();
        laws();
        faults();
        plans();
        Checks.edge(5, "NONE: others.", TellingEdges::formOthers);
        Checks.edge(5, "5: THE NAN (NONE: a whole one)", TellingEdges::formNan);
        Checks.edge(5, "3: BIAS, 4: GREATEST", TellingEdges::formExtremes);
        Checks.edge(54, "NONE for another what.", TellingEdges::countOthers);
        Checks.edge(54, "2: the FORM in use (NONE: none)", TellingEdges::countForm);
        Checks.edge(54, "5: lines of the PLAN, 6: SEEN, 7: what can be undone, 8: signs on the TAPE", TellingEdges::countFull);
    }

    private static void atFirst() {
        FusedUnit x = new FusedUnit();
        int[] due = {0, 0, -1, 0, 0, 0, 0, 0, 0};
        for (int what = 0; what < due.length; what++) {
            Checks.due("count " + what, due[what], x.count(what));
        }
        for (int what = 0; what < 6; what++) {
            Checks.due("form 0 " + what, -1, x.form(0, what));
        }
        Checks.due("asked", 0, x.asked());
        Checks.due("results", 0, x.results());
        Checks.due("undo", false, x.undo());
        Checks.due("judged", -1, x.judged(0));
        for (int mark = 0; mark < 4; mark++) {
            Checks.due("mark " + mark, false, x.mark(mark, true));
        }
    }

    // ---- the TAPE ----

    private static void tape() {
        Checks.edge(2, "The TAPE has at most 1,000 signs", TellingEdges::tapeFull);
        Checks.edge(2, "what is beyond 1,000, are left out", TellingEdges::tapeBeyond);
        Checks.edge(2, "others than 10 and 32 .. 126", TellingEdges::tapeSigns);
        Checks.edge(2, "Up to 24 signs come behind the TAPE", TellingEdges::tapeUpTo24);
        Checks.edge(2, "the bytes of a, b, c, of each the highest first", TellingEdges::tapeOrder);
        Checks.edge(3, "what reads it takes it: it is empty then", TellingEdges::tapeEmptyByUnit);
        Checks.edge(4, "what reads it takes it: it is empty then", TellingEdges::tapeEmptyByPlan);
    }

    private static void tapeFull() {
        FusedUnit x = new FusedUnit();
        Checks.due("999", 999, Telling.feed(x, " ".repeat(993) + "reg p;"));
        Checks.due("1,000", 1000, Telling.feed(x, "\n"));
        Checks.due("count", 1000, x.count(8));
        Checks.due("all are read", 0, x.unit());
        Checks.due("register", 1, x.count(1));
        Telling.feed(x, " ".repeat(994) + "reg p;");
        Checks.due("to the very last sign", 0, x.unit());
        Checks.due("register", 1, x.count(1));
    }

    private static void tapeBeyond() {
        FusedUnit x = new FusedUnit();
        Telling.feed(x, " ".repeat(994) + "reg p;");
        Checks.due("no more", 1000, x.feed(-1, Telling.eight("!!!!!!!!", 0), 0));
        Checks.due("no more", 1000, Telling.feed(x, "!"));
        Checks.due("nothing has come", 0, x.unit());
        Checks.due("cut in a call", 1000, Telling.feed(x, " ".repeat(995) + "reg p;"));
        Checks.due("without the last sign", Telling.fault(1, 1000), x.unit());
        Telling.feed(x, " ".repeat(988) + "reg abcdefghi");
        Checks.due("a word that is cut to 8", Telling.fault(1, 1000), x.unit());
        Telling.feed(x, " ".repeat(999));
        Checks.due("24 more", 1000, Telling.feed(x, "clear;clear;clear;clear;"));
        Checks.due("one came", Telling.fault(1, 999), x.plan());
    }

    private static void tapeSigns() {
        FusedUnit x = new FusedUnit();
        int due = 0;
        for (long sign = 0; sign < 256; sign++) {
            due += sign == 10 || sign >= 32 && sign <= 126 ? 1 : 0;
            int place = 8 * (int) (sign % 8);
            Checks.due("sign " + sign, due, x.feed(sign % 3 == 0 ? sign << place : 0, sign % 3 == 1 ? sign << place : 0, sign % 3 == 2 ? sign << place : 0));
        }
        Checks.due("count", 96, x.count(8));
    }

    private static void tapeUpTo24() {
        FusedUnit x = new FusedUnit();
        Checks.due("none", 0, x.feed(0, 0, 0));
        Checks.due("24", 24, x.feed(0x2121212121212121L, 0x2121212121212121L, 0x2121212121212121L));
        Checks.due("none", 24, x.feed(-1, Long.MIN_VALUE, 0x0909090909090909L));
        Checks.due("the lowest byte alone", 25, x.feed(0, 0, 33));
        Checks.due("the highest byte alone", 26, x.feed(33L << 56, 0, 0));
    }

    private static void tapeOrder() {
        FusedUnit x = new FusedUnit();
        Checks.due("six signs with gaps", 6, x.feed(('r' << 8 | 'e') << 16, (long) 'g' << 56 | ' ' << 8, 'p' << 24 | ';'));
        Checks.due("reg p;", 0, x.unit());
        Checks.due("register", 1, x.count(1));
    }

    private static void tapeEmptyByUnit() {
        FusedUnit x = new FusedUnit();
        Checks.due("no fault", 0, Telling.unit(x, "reg p;"));
        Checks.due("empty", 0, x.count(8));
        Checks.due("from the first sign again", Telling.fault(1, 6), Telling.unit(x, "reg q;!     "));
        Checks.due("empty after a fault", 0, x.count(8));
        Checks.due("signs anew", 3, Telling.feed(x, "reg"));
    }

    private static void tapeEmptyByPlan() {
        FusedUnit x = new FusedUnit();
        Checks.due("no fault", 0, Telling.plan(x, "clear;"));
        Checks.due("empty", 0, x.count(8));
        Checks.due("fault", Telling.fault(1, 0), Telling.plan(x, "!clear;"));
        Checks.due("empty after a fault", 0, x.count(8));
        Checks.due("nothing is told", 0, x.plan());
        Checks.due("no lines", 0, x.count(5));
    }

    // ---- tokens ----

    private static void tokens() {
        Checks.edge(3, "WORDS (letters a .. z, 8 at most)", TellingEdges::wordsOf8);
        Checks.edge(3, "NUMBERS (1 to 4 digits; a letter may stand right behind)", TellingEdges::numbersOf4);
        Checks.edge(3, "All else (a longer WORD or NUMBER, too, at its first sign) is none.", TellingEdges::allElse);
        Checks.edge(3, "TOKENS, each as long as can be, blanks (10, 32) between where one likes", TellingEdges::blanks);
    }

    private static void wordsOf8() {
        FusedUnit x = new FusedUnit();
        Checks.due("eight", 0, Telling.unit(x, "reg zzzzzzzz; reg azzzzzzz; reg zzzzzzza; reg zzzzzzz; reg z;"));
        Checks.due("five of them", 5, x.count(1));
        Checks.due("nine", Telling.fault(1, 5), Telling.unit(x, "reg  abcdefghi;"));
        Checks.due("twenty", Telling.fault(1, 0), Telling.unit(x, "abcdefghijklmnopqrst"));
        Checks.due("in a law", Telling.fault(1, 4), Telling.unit(x, "own minusminus;"));
        Checks.due("in a plan", Telling.fault(1, 0), Telling.plan(x, "clearclear;"));
        Checks.due("behind use", Telling.fault(1, 4), Telling.plan(x, "use abcdefghi;"));
        Checks.due("behind fma", Telling.fault(1, 6), Telling.plan(x, "fma z abcdefghi;"));
        Checks.due("eight are a name of none", Telling.fault(2, 6), Telling.plan(x, "fma z abcdefgh;"));
    }

    private static void numbersOf4() {
        FusedUnit x = new FusedUnit();
        Checks.due("four digits", 0, Telling.unit(x, "form m plain exp 0008frac 0018;own 9999and 0000;"));
        Checks.due("exponent", 8, x.form(0, 1));
        Checks.due("fraction", 18, x.form(0, 2));
        Checks.due("five", Telling.fault(1, 17), Telling.unit(x, "form m plain exp 00008 frac 2;"));
        Checks.due("five", Telling.fault(1, 24), Telling.unit(x, "form m plain exp 3 frac 00002;"));
        Checks.due("five", Telling.fault(1, 4), Telling.unit(x, "own 10000;"));
        Checks.due("five in a plan", Telling.fault(1, 5), Telling.plan(x, "mode 00005;"));
        Checks.due("four in a plan", 0, Telling.plan(x, "mode 0005;"));
        Checks.due("many digits", Telling.fault(1, 4), Telling.unit(x, "own 99999999999999999999;"));
        Checks.due("a letter behind five", Telling.fault(1, 4), Telling.unit(x, "own 12345and 1;"));
        Checks.due("one digit", 0, Telling.unit(x, "own 7;"));
    }

    private static void allElse() {
        for (char sign = 33; sign < 127; sign++) {
            boolean isLetter = sign >= 'a' && sign <= 'z';
            boolean isDigit = sign >= '0' && sign <= '9';
            if (isLetter || isDigit) {
                continue;
            }
            String text = "reg p;  " + sign;
            Checks.due(text, Telling.fault(1, 8), Telling.unit(new FusedUnit(), text));
            boolean isSignOfLaws = "<=+-*".indexOf(sign) >= 0;
            String law = "own 1 " + sign + " 1;";
            Checks.due(law, isSignOfLaws ? 0 : sign == ';' ? Telling.fault(1, 8) : Telling.fault(1, 6), Telling.unit(new FusedUnit(), law));
        }
        Checks.due("( )", 0, Telling.unit(new FusedUnit(), "own(1);"));
    }

    private static void blanks() {
        FusedUnit x = new FusedUnit();
        Checks.due("none", 0, Telling.unit(x, "form m plain exp3frac2;reg p;own(1<2)*not 3;"));
        Checks.due("many", 0, Telling.unit(x, "\n\n form\n\nm   plain\nexp\n 3 frac\n2\n;\n reg p\n;own\n(\n1\n<2 ) *\nnot\n3\n;\n  "));
        Checks.due("form", 1, x.count(0));
        Checks.due("words run together", Telling.fault(1, 0), Telling.unit(x, "regp;"));
        Checks.due("words run together", Telling.fault(1, 4), Telling.unit(x, "own notodd;"));
        Checks.due("numbers run together", Telling.fault(4, 17), Telling.unit(x, "form m plain exp 33frac 2;"));
        Checks.due("numbers apart", Telling.fault(1, 19), Telling.unit(x, "form m plain exp 3 3frac 2;"));
        Checks.due("a blank within a word", Telling.fault(1, 0), Telling.unit(x, "re g p;"));
    }

    // ---- UNITS ----

    private static void units() {
        Checks.edge(3, "UNIT: any number of", TellingEdges::anyNumber);
        Checks.edge(3, "form: 4 at most, numbered as told", TellingEdges::fourForms);
        Checks.edge(3, "KIND: plain, flush, sat, whole", TellingEdges::kinds);
        Checks.edge(3, "exp 2 to 8", TellingEdges::exponents);
        Checks.edge(3, "frac 1 to 18", TellingEdges::fractions);
        Checks.edge(3, "reg: 6 at most", TellingEdges::sixRegisters);
        Checks.edge(3, "own: once", TellingEdges::ownOnce);
        Checks.edge(3, "A NAME is another WORD than form, exp, frac, reg, own, fma, mode, clear, use, the KINDS, not, and, or", TellingEdges::names);
        Checks.edge(3, "no two (FORMS, REGISTERS) are alike", TellingEdges::namesAlike);
        Checks.edge(3, "Without a FAULT a UNIT is the UNIT from then on: its first FORM in use, all REGISTERS 0, MODE 0, no FLAGS, no PLAN, "
                + "nothing ASKED, nothing SEEN, nothing can be undone, no MARK is there.", TellingEdges::fromThenOn);
        Checks.edge(3, "0, or its FAULT (all stays then).", TellingEdges::unitFaultLeavesAll);
    }

    private static void anyNumber() {
        String[] none = {"", " ", "\n\n"};
        for (String text : none) {
            FusedUnit x = Edges.busy();
            x.unit();
            Checks.due("nothing told", 0, Telling.unit(x, text));
            Checks.due("forms", 0, x.count(0));
            Checks.due("registers", 0, x.count(1));
            Checks.due("form in use", -1, x.count(2));
        }
        FusedUnit x = new FusedUnit();
        Checks.due("in any order", 0, Telling.unit(x, "reg a; own 1; form b sat exp 2 frac 1; reg c; form d plain exp 3 frac 2; reg e;"));
        Checks.due("forms", 2, x.count(0));
        Checks.due("registers", 3, x.count(1));
        Checks.due("the first form", 2, x.form(0, 0));
        Checks.due("plan by number", 0, Telling.plan(x, "fma a c e a; use d;"));
    }

    private static String forms(int many) {
        StringBuilder text = new StringBuilder();
        for (int i = 0; i < many; i++) {
            text.append("form f").append((char) ('a' + i)).append(" sat exp ").append(2 + i).append(" frac ").append(1 + i).append(";");
        }
        return text.toString();
    }

    private static void fourForms() {
        FusedUnit x = new FusedUnit();
        Checks.due("four", 0, Telling.unit(x, forms(4)));
        Checks.due("count", 4, x.count(0));
        for (int form = 0; form < 4; form++) {
            Checks.due("exponent of " + form, 2 + form, x.form(form, 1));
            Checks.due("fraction of " + form, 1 + form, x.form(form, 2));
            Checks.due("use of " + form, 0, x.use(form));
        }
        Checks.due("a fifth", Telling.fault(5, forms(4).length()), Telling.unit(x, forms(5)));
        Checks.due("the four stay", 4, x.count(0));
    }

    private static void kinds() {
        String[] kinds = {"plain", "flush", "sat", "whole"};
        for (int kind = 0; kind < 4; kind++) {
            Checks.due(kinds[kind], kind, Telling.made("form m " + kinds[kind] + " exp 3 frac 2;").form(0, 0));
        }
        String[] none = {"minus", "odd", "m", "exp", "3", "plai", "plains", ";"};
        for (String word : none) {
            Checks.due(word, Telling.fault(1, 7), Telling.unit(new FusedUnit(), "form m " + word + " exp 3 frac 2;"));
        }
    }

    private static void exponents() {
        for (int bits = 0; bits <= 20; bits++) {
            FusedUnit x = new FusedUnit();
            int due = bits < 2 || bits > 8 ? Telling.fault(4, 17) : 0;
            Checks.due("exp " + bits, due, Telling.unit(x, "form m plain exp " + bits + " frac 2;"));
            Checks.due("told", due == 0 ? bits : -1, x.form(0, 1));
        }
        Checks.due("exp 9999", Telling.fault(4, 17), Telling.unit(new FusedUnit(), "form m plain exp 9999 frac 2;"));
    }

    private static void fractions() {
        for (int bits = 0; bits <= 40; bits++) {
            FusedUnit x = new FusedUnit();
            int due = bits < 1 || bits > 18 ? Telling.fault(4, 24) : 0;
            Checks.due("frac " + bits, due, Telling.unit(x, "form m plain exp 3 frac " + bits + ";"));
            Checks.due("told", due == 0 ? bits : -1, x.form(0, 2));
        }
        Checks.due("frac 9999", Telling.fault(4, 24), Telling.unit(new FusedUnit(), "form m plain exp 3 frac 9999;"));
    }

    private static void sixRegisters() {
        String six = "reg a;reg b;reg c;reg d;reg e;reg f;";
        FusedUnit x = new FusedUnit();
        Checks.due("six", 0, Telling.unit(x, six + FORM));
        Checks.due("count", 6, x.count(1));
        for (int reg = 0; reg < 6; reg++) {
            Checks.due("set", 0, x.set(reg, reg + 1));
        }
        for (int reg = 0; reg < 6; reg++) {
            Checks.due("reg", reg + 1, x.reg(reg));
        }
        Checks.due("a seventh", Telling.fault(5, six.length()), Telling.unit(x, six + "reg g;"));
        Checks.due("the six stay", 6, x.count(1));
    }

    private static void ownOnce() {
        Checks.due("once", 0, Telling.unit(new FusedUnit(), "own 1;"));
        Checks.due("twice", Telling.fault(3, 7), Telling.unit(new FusedUnit(), "own 1; own 1;"));
        Checks.due("twice, apart", Telling.fault(3, 13), Telling.unit(new FusedUnit(), "own 0; reg a;own"));
        FusedUnit x = new FusedUnit();
        Telling.unit(x, "own 1; own 1;");
        Checks.due("once in the next one", 0, Telling.unit(x, "own 1;"));
        Checks.due("and in the next but one", 0, Telling.unit(x, "own 0;"));
    }

    private static void names() {
        String[] none = {"form", "exp", "frac", "reg", "own", "fma", "mode", "clear", "use", "plain", "flush", "sat", "whole", "not", "and", "or"};
        for (String word : none) {
            Checks.due("form " + word, Telling.fault(1, 5), Telling.unit(new FusedUnit(), "form " + word + " sat exp 2 frac 1;"));
            Checks.due("reg " + word, Telling.fault(1, 4), Telling.unit(new FusedUnit(), "reg " + word + ";"));
            for (int i = 1; i <= 4; i++) {
                String line = "fma " + "p ".repeat(i - 1);
                Checks.due(line + word, Telling.fault(1, line.length()), Telling.plan(Edges.small(), line + word + ";"));
            }
            Checks.due("use " + word, Telling.fault(1, 4), Telling.plan(Edges.small(), "use " + word + ";"));
        }
        String[] some = {"minus", "odd", "guard", "rest", "a", "formx", "xform", "ors", "no", "modes"};
        for (String word : some) {
            FusedUnit x = new FusedUnit();
            Checks.due("reg " + word, 0, Telling.unit(x, "reg " + word + "; form z sat exp 2 frac 1;"));
            Checks.due("fma " + word, 0, Telling.plan(x, "fma " + (word + " ").repeat(4) + ";"));
            Checks.due("form " + word, 0, Telling.unit(x, "form " + word + " sat exp 2 frac 1;"));
            Checks.due("use " + word, 0, Telling.plan(x, "use " + word + ";"));
        }
    }

    private static void namesAlike() {
        String a = "form a sat exp 2 frac 1;";
        Checks.due("two registers", Telling.fault(3, 10), Telling.unit(new FusedUnit(), "reg a;reg a;"));
        Checks.due("two forms", Telling.fault(3, a.length() + 5), Telling.unit(new FusedUnit(), a + a));
        Checks.due("a register as a form", Telling.fault(3, a.length() + 4), Telling.unit(new FusedUnit(), a + "reg a;"));
        Checks.due("a form as a register", Telling.fault(3, 11), Telling.unit(new FusedUnit(), "reg a;" + a));
        Checks.due("the first and the last of six", Telling.fault(3, 34),
                Telling.unit(new FusedUnit(), "reg a;reg b;reg c;reg d;reg e;reg a;"));
        FusedUnit x = Telling.made("reg a;" + FORM);
        Checks.due("names of the UNIT ahead are free", 0, Telling.unit(x, a + "reg m;"));
    }

    private static void fromThenOn() {
        FusedUnit x = Edges.busy();
        x.use(2);
        x.see(12, true);
        x.unit();
        Checks.due("unit", 0, Telling.unit(x, Telling.SMALL));
        int[] due = {4, 3, 0, 0, 0, 0, 0, 0, 0};
        for (int what = 0; what < due.length; what++) {
            Checks.due("count " + what, due[what], x.count(what));
        }
        for (int reg = 0; reg < 3; reg++) {
            Checks.due("reg " + reg, 0, x.reg(reg));
        }
        Checks.due("asked", 0, x.asked());
        Checks.due("often", -1, x.often(0));
        Checks.due("results", 0, x.results());
        Checks.due("fit", 64, x.fit());
        Checks.due("undo", false, x.undo());
        for (int mark = 0; mark < 4; mark++) {
            Checks.due("mark " + mark, false, x.mark(mark, true));
        }
    }

    private static void unitFaultLeavesAll() {
        String[] wrong = {"reg a; reg b; 1", "form a sat exp 2 frac 1; own 1; own 2;", "form a sat exp 9 frac 1;", "own"};
        for (String text : wrong) {
            FusedUnit x = Edges.busy();
            x.unit();
            Edges.stays(x, text, 1, y -> Telling.unit(y, text) > 0 ? 1 : 0);
            Checks.due("kind", 1, x.form(1, 0));
            Checks.due("names", 0, Telling.plan(x, "fma p q r p; use w;"));
            Checks.due("mark", true, x.mark(1, true));
        }
    }

    // ---- laws ----

    private static void laws() {
        Checks.edge(3, "no PART lies within 5 of not and ( )", TellingEdges::within5);
        Checks.edge(3, "what is not 0 is so; ints wrap.", TellingEdges::intsWrap);
        Checks.edge(3, "Of not, and, or, < and = comes 1 or 0", TellingEdges::oneOrNought);
        Checks.edge(3, "TEST: SUM, or SUM < SUM, or SUM = SUM", TellingEdges::oneComparison);
        Checks.edge(3, "from the left", TellingEdges::fromTheLeft);
        Checks.edge(3, "Without own: 0.", TellingEdges::withoutOwn);
    }

    private static void within5() {
        String[] right = {"own not not not not 1;", "own ((((odd))));", "own not(not(1));", "own ((((1))))*((((1))))-not not not not 0;",
            "own (((1)+((1))));"};
        for (String text : right) {
            Checks.due(text, 0, Telling.unit(new FusedUnit(), text));
        }
        String[] wrong = {"own not not not not not 1;", "own (((((1)))));", "own not not not not (1);", "own not not not not not not 1;",
            "own ((((((1))))));", "own ((((not 1))));", "own not(not(not odd));", "own (((1)+(((1)))));"};
        int[] places = {24, 9, 21, 24, 9, 12, 16, 13};
        for (int i = 0; i < wrong.length; i++) {
            Checks.due(wrong[i], Telling.fault(5, places[i]), Telling.unit(new FusedUnit(), wrong[i]));
        }
    }

    /** 1.25 * 1.25 is 1.5625: between 1.5 and 1.75, which it is where the law is so. */
    private static void says(String law, boolean due) {
        FusedUnit x = Telling.made(FORM + "own " + law + ";");
        Checks.due(law, due ? 15 : 14, x.sum(13, 13, 0, 5));
    }

    private static void intsWrap() {
        says("8192*8192*32 < 0", true);
        says("8192*8192*32 - 1 < 0", false);
        says("8192*8192*32 - 1 + 1 < 0", true);
        says("0 - 8192*8192*32 < 0", true);
        says("8192*8192*64", false);
        says("8192*8192*64 + 1", true);
        says("9999*9999*9999*9999*9999 = " + "9999*9999*9999*9999*9999", true);
        says("9999*9999*9999 < 0", 9999 * 9999 * 9999 < 0);
        says("0 - 1", true);
        says("0 - 9999", true);
        says("0", false);
        says("9999", true);
    }

    private static void oneOrNought() {
        says("(7 and 9) = 1", true);
        says("(7 or 0) = 1", true);
        says("(0 or 9) = 1", true);
        says("(0 - 5 and 0 - 5) = 1", true);
        says("(7 and 0) = 0", true);
        says("(0 or 0) = 0", true);
        says("not 7 = 0", true);
        says("not 0 = 1", true);
        says("not (0 - 7) = 0", true);
        says("(2 < 9) = 1", true);
        says("(9 < 2) = 0", true);
        says("(2 < 2) = 0", true);
        says("(7 = 7) = 1", true);
        says("(7 = 8) = 0", true);
    }

    private static void oneComparison() {
        String[] wrong = {"own 1 < 2 < 3;", "own 1 = 1 = 1;", "own 1 < 2 = 1;", "own 1 = 1 < 2;", "own 1 <= 2;", "own 1 =< 2;", "own 1 == 2;"};
        int[] places = {10, 10, 10, 10, 7, 7, 7};
        for (int i = 0; i < wrong.length; i++) {
            Checks.due(wrong[i], Telling.fault(1, places[i]), Telling.unit(new FusedUnit(), wrong[i]));
        }
        says("1 < 2 and 2 < 3", true);
        says("(1 < 2) < 3", true);
        says("(5 = 5) = 1", true);
        says("1 + 1 < 1 * 3", true);
        says("not 1 < 1", true);
        says("not (1 < 1)", true);
        says("not (0 < 1)", false);
    }

    private static void fromTheLeft() {
        says("1 or 1 and 0", false);
        says("0 and 0 or 1", true);
        says("5 - 3 - 2", false);
        says("1 - 1 + 1", true);
        says("2 - 1 * 2", false);
        says("1 + 1 = 2 and 2 < 3", true);
    }

    private static void withoutOwn() {
        FusedUnit x = Telling.made(FORM);
        Checks.due("cut", 14, x.sum(13, 13, 0, 5));
        Checks.due("beyond", 27, x.sum(27, 27, 0, 5));
        FusedUnit y = Telling.made(FORM + "own 1;");
        Checks.due("one more", 15, y.sum(13, 13, 0, 5));
        Telling.unit(y, FORM);
        Checks.due("the next UNIT has none", 14, y.sum(13, 13, 0, 5));
    }

    // ---- FAULTS ----

    private static void faults() {
        Checks.edge(3, "the end being one at the text's length", TellingEdges::endOfUnit);
        Checks.edge(4, "the end being one at the text's length", TellingEdges::endOfPlan);
        Checks.edge(3, "of the first token from the left that is wrong the least", TellingEdges::firstAndLeast);
        Checks.edge(3, "1 it is none, or can't stand there", TellingEdges::fault1);
        Checks.edge(4, "2 a NAME of no REGISTER (behind fma, the others), of no FORM (behind use) told", TellingEdges::fault2);
        Checks.edge(3, "3 a NAME told already; own a second time", TellingEdges::fault3);
        Checks.edge(3, "4 a NUMBER that is not as told", TellingEdges::fault4);
        Checks.edge(3, "5 one too many: the words form of a fifth, reg of a seventh", TellingEdges::fault5);
        Checks.edge(3, "not, or a PART, within 5 others", TellingEdges::fault5InLaws);
        Checks.edge(4, "the first word of a 31st line of a PLAN", TellingEdges::fault5InPlans);
    }

    private static void endOfUnit() {
        String[] texts = {"form", "form ", "form\n\n", "form m", "form m plain", "form m plain exp", "form m plain exp 3", "form m plain exp 3 frac",
            "form m plain exp 3 frac 2", "reg", "reg p", "reg p  ", "own", "own 1", "own not", "own (", "own (1", "own 1 +", "own 1 and ", "own 1 <\n"};
        for (String text : texts) {
            Checks.due(text, Telling.fault(1, text.length()), Telling.unit(new FusedUnit(), text));
        }
    }

    private static void endOfPlan() {
        String[] texts = {"fma", "fma p", "fma p q ", "fma p q r", "fma p q r p", "mode", "mode 3\n\n", "clear", "use", "use m   "};
        for (String text : texts) {
            Checks.due(text, Telling.fault(1, text.length()), Telling.plan(Edges.small(), text));
        }
    }

    private static void firstAndLeast() {
        Checks.due("the left number", Telling.fault(4, 17), Telling.unit(new FusedUnit(), "form m plain exp 9 frac 19;"));
        Checks.due("a number ahead of a sign", Telling.fault(4, 17), Telling.unit(new FusedUnit(), "form m plain exp 9 ! frac 2;"));
        Checks.due("a sign ahead of a number", Telling.fault(1, 17), Telling.unit(new FusedUnit(), "form m plain exp ! 9 frac 2;"));
        Checks.due("a name told already ahead of its kind", Telling.fault(3, 11), Telling.unit(new FusedUnit(), "reg a;form a none"));
        Checks.due("the fifth ahead of its name", Telling.fault(5, forms(4).length()), Telling.unit(new FusedUnit(), forms(4) + "form fa !"));
        Checks.due("own ahead of its law", Telling.fault(3, 6), Telling.unit(new FusedUnit(), "own 1;own !"));
        Checks.due("it can't stand there, and is too deep", Telling.fault(1, 24), Telling.unit(new FusedUnit(), "own not not not not not ;"));
        Checks.due("it can't stand there, and is too deep", Telling.fault(1, 9), Telling.unit(new FusedUnit(), "own (((((p"));
        Checks.due("none, and too deep", Telling.fault(1, 9), Telling.unit(new FusedUnit(), "own (((((12345"));
        Checks.due("a name of none ahead of another", Telling.fault(2, 4), Telling.plan(Edges.small(), "fma y z p p;"));
        Checks.due("no line, and the 31st", Telling.fault(1, 180), Telling.plan(Edges.small(), "clear;".repeat(30) + "p"));
    }

    private static void fault1() {
        String[] texts = {"p", "1", ";", "(", "fma p p p p;", "mode 1;", "clear;", "use m;", "form 1", "form m m", "form m plain 3", "form m plain exp p",
            "form m plain exp 3 2", "form m plain exp 3 frac p", "form m plain exp 3 frac 2 reg", "reg 1", "reg ;", "reg p p", "own ;", "own p", "own )", "own 1 1",
            "own 1)", "own (1;", "own 1 < 1 < 1", "own 1 = 1 = 1", "own and", "own + 1", "own - 1", "own 1 not 1", "own 1 odd"};
        int[] places = {0, 0, 0, 0, 0, 0, 0, 0, 5, 7, 13, 17, 19, 24, 26, 4, 4, 6, 4, 4, 4, 6, 5, 6, 10, 10, 4, 4, 4, 6, 6};
        for (int i = 0; i < texts.length; i++) {
            Checks.due(texts[i], Telling.fault(1, places[i]), Telling.unit(new FusedUnit(), texts[i]));
        }
    }

    private static void fault2() {
        for (int i = 0; i < 4; i++) {
            String line = "fma " + "p ".repeat(i);
            Checks.due(line + "z", Telling.fault(2, line.length()), Telling.plan(Edges.small(), line + "z;"));
            Checks.due(line + "m, a form", Telling.fault(2, line.length()), Telling.plan(Edges.small(), line + "m;"));
        }
        Checks.due("use z", Telling.fault(2, 4), Telling.plan(Edges.small(), "use z;"));
        Checks.due("use p, a register", Telling.fault(2, 4), Telling.plan(Edges.small(), "use p;"));
        Checks.due("none is told", Telling.fault(2, 4), Telling.plan(new FusedUnit(), "fma p p p p;"));
        Checks.due("none is told", Telling.fault(2, 4), Telling.plan(new FusedUnit(), "use m;"));
        FusedUnit x = Edges.small();
        Telling.unit(x, "reg a; form b sat exp 2 frac 1;");
        Checks.due("of the UNIT ahead", Telling.fault(2, 4), Telling.plan(x, "fma p p p p;"));
        Checks.due("of the UNIT ahead", Telling.fault(2, 4), Telling.plan(x, "use m;"));
    }

    private static void fault3() {
        Checks.due("a register's", Telling.fault(3, 10), Telling.unit(new FusedUnit(), "reg a;reg a;"));
        Checks.due("a form's", Telling.fault(3, FORM.length() + 5), Telling.unit(new FusedUnit(), FORM + "form m"));
        Checks.due("own", Telling.fault(3, 6), Telling.unit(new FusedUnit(), "own 0;own 0;"));
        Checks.due("not told yet in a UNIT of its own", 0, Telling.unit(Edges.small(), Telling.SMALL));
    }

    private static void fault4() {
        String[] texts = {"form m plain exp 1 frac 2;", "form m plain exp 9 frac 2;", "form m plain exp 3 frac 0;", "form m plain exp 3 frac 19;"};
        int[] places = {17, 17, 24, 24};
        for (int i = 0; i < texts.length; i++) {
            Checks.due(texts[i], Telling.fault(4, places[i]), Telling.unit(new FusedUnit(), texts[i]));
        }
        Checks.due("mode 6", Telling.fault(4, 5), Telling.plan(Edges.small(), "mode 6;"));
        Checks.due("any in a law", 0, Telling.unit(new FusedUnit(), "own 9999 + 0;"));
    }

    private static void fault5() {
        Checks.due("a fifth form", Telling.fault(5, forms(4).length() + 1), Telling.unit(new FusedUnit(), forms(4) + " form"));
        String six = "reg a;reg b;reg c;reg d;reg e;reg f;";
        Checks.due("a seventh reg", Telling.fault(5, six.length()), Telling.unit(new FusedUnit(), six + "reg"));
        Checks.due("four and six", 0, Telling.unit(new FusedUnit(), forms(4) + six));
        Checks.due("no fifth form", Telling.fault(1, forms(4).length()), Telling.unit(new FusedUnit(), forms(4) + "exp"));
    }

    private static void fault5InLaws() {
        String[] deep = {"not not not not not ", "(((((", "((((not ", "not(not(not "};
        String[] parts = {"not 1;", "1;", "odd;", "(1);"};
        for (String ahead : deep) {
            for (String part : parts) {
                String text = "own " + ahead + part;
                Checks.due(text, Telling.fault(5, 4 + ahead.length()), Telling.unit(new FusedUnit(), text));
            }
        }
    }

    private static void fault5InPlans() {
        String thirty = "clear;".repeat(30);
        String[] words = {"clear", "fma", "mode", "use"};
        for (String word : words) {
            Checks.due(word, Telling.fault(5, thirty.length()), Telling.plan(Edges.small(), thirty + word));
        }
        Checks.due("30 are right", 0, Telling.plan(Edges.small(), thirty));
    }

    // ---- PLANS ----

    private static void plans() {
        Checks.edge(4, "30 lines at most", TellingEdges::thirtyLines);
        Checks.edge(4, "(four REGISTERS; 0 to 5; a FORM)", TellingEdges::lines);
        Checks.edge(4, "PLAN: any number of", TellingEdges::emptyPlan);
        Checks.edge(4, "The TAPE is read as a PLAN, likewise.", TellingEdges::planFaultLeavesAll);
    }

    private static void thirtyLines() {
        FusedUnit x = Edges.small();
        Checks.due("29", 0, Telling.plan(x, "clear;".repeat(29)));
        Checks.due("count", 29, x.count(5));
        Checks.due("30", 0, Telling.plan(x, "fma p q r p;".repeat(30)));
        Checks.due("count", 30, x.count(5));
        Checks.due("31", Telling.fault(5, 180), Telling.plan(x, "clear;".repeat(31)));
        Checks.due("the 30 stay", 30, x.count(5));
        Telling.plan(x, "clear;".repeat(29) + "mode 3;");
        Checks.due("30 again", 30, x.count(5));
        x.set(0, 27);
        Telling.plan(x, "clear;".repeat(29) + "fma q p p p;");
        Checks.due("the last one counts", 10, x.judged(1));
    }

    private static void lines() {
        for (int mode = 0; mode <= 7; mode++) {
            Checks.due("mode " + mode, mode < 6 ? 0 : Telling.fault(4, 5), Telling.plan(Edges.small(), "mode " + mode + ";"));
        }
        String[] wrong = {"mode -1;", "mode p;", "fma p q r;", "fma p q r p p;", "use m m;", "clear 1;", "mode 1 1;", "use 1;"};
        int[] places = {5, 5, 9, 12, 6, 6, 7, 4};
        for (int i = 0; i < wrong.length; i++) {
            Checks.due(wrong[i], Telling.fault(1, places[i]), Telling.plan(Edges.small(), wrong[i]));
        }
        Checks.due("the last form, the last register", 0, Telling.plan(Edges.small(), "use w; fma r r r r;"));
    }

    private static void emptyPlan() {
        FusedUnit x = Edges.busy();
        x.unit();
        Checks.due("lines", 2, x.count(5));
        Checks.due("nothing told", 0, x.plan());
        Checks.due("no lines", 0, x.count(5));
        Checks.due("none that can't be", -1, x.judged(0));
        Checks.due("the flags that there are", x.count(4), x.judged(1));
        Checks.due("none raises", 0, x.judged(2));
    }

    private static void planFaultLeavesAll() {
        String[] wrong = {"clear; clear; clear; !", "fma p q r z;", "mode 6;", "use p;", "clear"};
        for (String text : wrong) {
            FusedUnit x = Edges.busy();
            x.unit();
            Edges.stays(x, text, 1, y -> Telling.plan(y, text) > 0 ? 1 : 0);
            Checks.due("mark", true, x.mark(1, true));
        }
    }

    // ---- promises 5 and 54 ----

    private static void formOthers() {
        int[] others = {-1, 4, 5, Edges.MIN, Edges.MAX};
        for (int other : others) {
            Edges.refused("form " + other, -1, x -> x.form(other, 0));
        }
        int[] whats = {-1, 6, 7, Edges.MIN, Edges.MAX};
        for (int what : whats) {
            Edges.refused("what " + what, -1, x -> x.form(0, what));
        }
        FusedUnit one = Telling.made(FORM);
        Checks.due("the first one", 0, one.form(0, 0));
        Checks.due("one is told", -1, one.form(1, 0));
        Edges.withoutForm("form 0", -1, x -> x.form(0, 0));
        Telling.unit(one, "");
        Checks.due("none any more", -1, one.form(0, 0));
    }

    private static void formNan() {
        for (int exp = 2; exp <= 8; exp++) {
            for (int frac = 1; frac <= 18; frac++) {
                int due = ((1 << exp) - 1 << frac) + (1 << frac - 1);
                String bits = " exp " + exp + " frac " + frac + ";";
                FusedUnit x = Telling.made("form a plain" + bits + "form b flush" + bits + "form c sat" + bits + "form d whole" + bits);
                for (int form = 0; form < 4; form++) {
                    Checks.due("THE NAN of" + bits, form < 3 ? due : -1, x.form(form, 5));
                }
            }
        }
    }

    private static void formExtremes() {
        int[][] bits = {{2, 1}, {8, 1}, {2, 18}, {8, 18}};
        int[] bias = {1, 127, 1, 127};
        int[] greatest = {5, 509, (3 << 18) - 1, (255 << 18) - 1};
        int[] wholes = {7, 511, (4 << 18) - 1, (256 << 18) - 1};
        for (int i = 0; i < bits.length; i++) {
            String end = " exp " + bits[i][0] + " frac " + bits[i][1] + ";";
            FusedUnit x = Telling.made("form a plain" + end + "form b flush" + end + "form c sat" + end + "form d whole" + end);
            for (int form = 0; form < 4; form++) {
                Checks.due("BIAS" + end, bias[i], x.form(form, 3));
                Checks.due("GREATEST" + end, form < 3 ? greatest[i] : wholes[i], x.form(form, 4));
            }
        }
    }

    private static void countOthers() {
        int[] others = {-1, 9, 10, Edges.MIN, Edges.MAX};
        for (int other : others) {
            Edges.refused("count " + other, -1, x -> x.count(other));
        }
    }

    private static void countForm() {
        Edges.withoutForm("count 2", -1, x -> x.count(2));
        FusedUnit x = Edges.small();
        for (int form = 3; form >= 0; form--) {
            x.use(form);
            Checks.due("in use", form, x.count(2));
        }
        Telling.unit(x, "reg p;");
        Checks.due("none any more", -1, x.count(2));
    }

    private static void countFull() {
        FusedUnit x = Edges.small();
        Telling.plan(x, "clear;".repeat(30));
        for (int i = 0; i < 20; i++) {
            x.clear();
            x.see(0, true);
        }
        Telling.feed(x, " ".repeat(1010));
        int[] due = {4, 3, 0, 0, 0, 30, 8, 16, 1000};
        for (int what = 0; what < due.length; what++) {
            Checks.due("count " + what, due[what], x.count(what));
        }
    }
}
