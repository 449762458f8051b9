import java.util.ArrayList;
import java.util.HashSet;
import java.util.LinkedHashMap;
import java.util.List;
import java.util.Map;
import java.util.NoSuchElementException;
import java.util.Set;

/** Long runs of calls beside a plain model of the state: all answers must be alike. */
final class RandomRuns {
    private static final Oracle.Law LAW = (minus, odd, guard, rest) -> minus ? guard : rest || odd;
    private static final String LAW_TEXT = "own minus * guard or (not minus) * (rest or odd);";

    private RandomRuns() {
    }

    static void run() {
        Checks.test("promise 6 to 13, 45 to 54: runs beside a model", RandomRuns::beside);
        Checks.test("all promises: no call throws what is not due, for any arguments", RandomRuns::anyArguments);
    }

    private static final class Model {
        final Oracle[] forms = {new Oracle(0, 3, 2, LAW), new Oracle(1, 4, 3, LAW), new Oracle(2, 3, 3, LAW), new Oracle(3, 3, 1, LAW)};
        int form;
        int mode;
        int flags;
        int[] registers = new int[4];
        List<Object[]> past = new ArrayList<>();
        Object[][] marks = new Object[4][];
        List<String> asked = new ArrayList<>();
        List<String> results = new ArrayList<>();
        List<int[]> seen = new ArrayList<>();
        List<int[]> plan = new ArrayList<>();

        Oracle now() {
            return forms[form];
        }

        Object[] state(boolean isSum) {
            return new Object[] {form, mode, flags, registers.clone(), isSum};
        }

        void restore(Object[] state) {
            form = (Integer) state[0];
            mode = (Integer) state[1];
            flags = (Integer) state[2];
            registers = ((int[]) state[3]).clone();
        }

        void keep(boolean isSum) {
            past.add(state(isSum));
            if (past.size() > 16) {
                past.remove(0);
            }
        }

        int fuse(int into, int a, int b, int c) {
            registers[into] = now().sum(registers[a], registers[b], registers[c], mode);
            flags |= now().flags;
            return now().flags;
        }

        int fma(int into, int a, int b, int c) {
            keep(true);
            int first = Math.min(registers[a], registers[b]);
            int second = Math.max(registers[a], registers[b]);
            asked.add(form + " " + mode + " " + registers[c] + " " + first + " " + second);
            int raised = fuse(into, a, b, c);
            int told = registers[into];
            results.add(now().isNan(told) ? "NAN" : now().size(told) == 0 ? "NOUGHT" : form + " " + told);
            return raised;
        }

        int turn(int other) {
            int raised = 0;
            for (int i = 0; i < registers.length; i++) {
                registers[i] = now().into(forms[other], registers[i], mode);
                raised |= forms[other].flags;
            }
            form = other;
            flags |= raised;
            return raised;
        }

        int use(int other) {
            keep(false);
            seen.clear();
            return turn(other);
        }

        boolean undo() {
            if (past.isEmpty()) {
                return false;
            }
            Object[] last = past.remove(past.size() - 1);
            restore(last);
            if ((Boolean) last[4]) {
                asked.remove(asked.size() - 1);
                results.remove(results.size() - 1);
            }
            seen.clear();
            return true;
        }

        Map<String, Integer> often() {
            Map<String, Integer> often = new LinkedHashMap<>();
            for (String sum : asked) {
                often.merge(sum, 1, Integer::sum);
            }
            return often;
        }

        int judged(int what) {
            Object[] before = state(false);
            int raising = 0;
            for (int[] line : plan) {
                int were = flags;
                if (line[0] == 0) {
                    fuse(line[1], line[2], line[3], line[4]);
                } else if (line[0] == 1) {
                    mode = line[1];
                } else if (line[0] == 2) {
                    flags = 0;
                } else {
                    turn(line[1]);
                }
                raising += (flags & ~were) != 0 ? 1 : 0;
            }
            int at = flags;
            restore(before);
            return what == 0 ? -1 : what == 1 ? at : raising;
        }

        int fit(boolean isLeast) {
            int many = 0;
            int[] bits = new int[8];
            boolean[] is = new boolean[8];
            for (int i = 0; i < seen.size(); i++) {
                bits[i] = seen.get(i)[0];
                is[i] = seen.get(i)[1] == 1;
            }
            for (int unknown = 0; unknown < now().many(); unknown++) {
                if (SmallFormTests.fits(now(), unknown, bits, is, seen.size(), mode)) {
                    if (isLeast) {
                        return unknown;
                    }
                    many++;
                }
            }
            return isLeast ? -1 : many;
        }
    }

    private static void beside() {
        for (int run = 0; run < 150; run++) {
            Draws draws = new Draws(run + 1000);
            Model model = new Model();
            StringBuilder text = new StringBuilder(LAW_TEXT);
            for (int i = 0; i < 4; i++) {
                text.append(model.forms[i].text("f" + (char) ('a' + i)));
            }
            FusedUnit x = Telling.made(text + "reg a;reg b;reg c;reg d;");
            for (int i = 0; i < 330; i++) {
                step(x, model, draws, run + "." + i);
            }
        }
    }

    private static void step(FusedUnit x, Model model, Draws draws, String at) {
        Oracle form = model.now();
        int kind = draws.below(22);
        int a = draws.below(4);
        int b = draws.below(4);
        int c = draws.below(4);
        int d = draws.below(4);
        if (kind < 5) {
            Checks.due(at + " fma", model.fma(a, b, c, d), x.fma(a, b, c, d));
        } else if (kind < 9) {
            int bits = draws.below(3) == 0 ? draws.bits(form) : draws.near(form);
            model.keep(false);
            Checks.due(at + " set", model.registers[a], x.set(a, bits));
            model.registers[a] = bits;
        } else if (kind == 9) {
            int mode = draws.below(6);
            model.keep(false);
            Checks.due(at + " mode", model.mode, x.mode(mode));
            model.mode = mode;
        } else if (kind == 10) {
            model.keep(false);
            Checks.due(at + " clear", model.flags, x.clear());
            model.flags = 0;
        } else if (kind == 11) {
            Checks.due(at + " use", model.use(a), x.use(a));
        } else if (kind < 14) {
            Checks.due(at + " undo", model.undo(), x.undo());
        } else if (kind == 14) {
            lay(x, model, a, draws.below(2) == 0, at);
        } else if (kind == 15) {
            see(x, model, draws, at);
        } else if (kind == 16) {
            plan(x, model, draws, at);
        } else {
            look(x, model, draws, at);
        }
    }

    private static void lay(FusedUnit x, Model model, int mark, boolean back, String at) {
        boolean due = !back || model.marks[mark] != null;
        Checks.due(at + " mark", due, x.mark(mark, back));
        if (!back) {
            model.marks[mark] = model.state(false);
        } else if (due) {
            model.restore(model.marks[mark]);
            model.past.clear();
            model.seen.clear();
        }
    }

    private static void see(FusedUnit x, Model model, Draws draws, String at) {
        int bits = draws.near(model.now());
        boolean is = draws.below(2) == 0;
        boolean due = model.seen.size() < 8;
        Checks.due(at + " see", due, x.see(bits, is));
        if (due) {
            model.seen.add(new int[] {bits, is ? 1 : 0});
        }
    }

    private static void plan(FusedUnit x, Model model, Draws draws, String at) {
        StringBuilder text = new StringBuilder();
        List<int[]> lines = new ArrayList<>();
        int many = draws.below(6);
        for (int i = 0; i < many; i++) {
            int[] line = {draws.below(4), draws.below(4), draws.below(4), draws.below(4), draws.below(4)};
            lines.add(line);
            if (line[0] == 0) {
                text.append("fma");
                for (int k = 1; k <= 4; k++) {
                    text.append(' ').append((char) ('a' + line[k]));
                }
            } else if (line[0] == 1) {
                text.append("mode ").append(line[1]);
            } else if (line[0] == 2) {
                text.append("clear");
            } else {
                text.append("use f").append((char) ('a' + line[1]));
            }
            text.append(";");
        }
        Checks.due(at + " plan", 0, Telling.plan(x, text.toString()));
        model.plan = lines;
    }

    private static void look(FusedUnit x, Model model, Draws draws, String at) {
        Map<String, Integer> often = model.often();
        Set<String> results = new HashSet<>(model.results);
        switch (draws.below(8)) {
            case 0:
                int[] due = {4, 4, model.form, model.mode, model.flags, model.plan.size(), model.seen.size(), model.past.size(), 0};
                int what = draws.below(9);
                Checks.due(at + " count " + what, due[what], x.count(what));
                break;
            case 1:
                int reg = draws.below(4);
                Checks.due(at + " reg", model.registers[reg], x.reg(reg));
                break;
            case 2:
                Checks.due(at + " asked", often.size(), x.asked());
                Checks.due(at + " results", results.size(), x.results());
                break;
            case 3:
                int i = often.isEmpty() ? 0 : draws.below(often.size());
                List<Integer> times = new ArrayList<>(often.values());
                Checks.due(at + " often", times.isEmpty() ? -1 : times.get(i), x.often(i));
                break;
            case 4:
                int a = model.registers[draws.below(4)];
                int b = model.registers[draws.below(4)];
                int c = model.registers[draws.below(4)];
                int mode = draws.below(2) == 0 ? model.mode : draws.below(6);
                String sum = model.form + " " + mode + " " + c + " " + Math.min(a, b) + " " + Math.max(a, b);
                Checks.due(at + " times", often.getOrDefault(sum, 0), x.times(a, b, c, mode));
                break;
            case 5:
                int which = draws.below(3);
                Checks.due(at + " judged " + which, model.judged(which), x.judged(which));
                break;
            case 6:
                Checks.due(at + " fit", model.fit(false), x.fit());
                break;
            default:
                Checks.due(at + " least", model.fit(true), x.least());
        }
    }

    // ---- any arguments ----

    private static int any(Draws draws) {
        int[] edges = {0, 1, -1, 2, 3, 5, 6, 12, 28, 44, 60, 63, 64, 99, 100, 127 << 18, 1 << 26, 1 << 27, Integer.MAX_VALUE, Integer.MIN_VALUE};
        return draws.below(4) == 0 ? (int) draws.next() : draws.below(2) == 0 ? draws.below(64) : edges[draws.below(edges.length)];
    }

    private static void anyArguments() {
        String[] words = {"form ", "reg ", "own ", "a ", "b ", "c", "plain ", "flush ", "whole ", "exp ", "frac ", "3 ", "8 ", "2", ";", "; ", "(",
            ")", "not ", "odd ", "<", "=", "+", "-", "*", "fma ", "mode ", "clear ", "use ", "and ", "or ", "#", "12345", "abcdefghi"};
        for (int run = 0; run < 120; run++) {
            Draws draws = new Draws(run + 5000);
            FusedUnit x = run % 4 == 0 ? new FusedUnit() : Telling.made(run % 4 == 1 ? Telling.LARGE : Telling.SMALL);
            for (int i = 0; i < 450; i++) {
                if (draws.below(40) == 0) {
                    StringBuilder text = new StringBuilder();
                    int many = draws.below(12);
                    for (int k = 0; k < many; k++) {
                        text.append(words[draws.below(words.length)]);
                    }
                    Telling.feed(x, text.toString());
                }
                callAny(x, draws);
            }
        }
    }

    private static void callAny(FusedUnit x, Draws draws) {
        int a = any(draws);
        int b = any(draws);
        int c = any(draws);
        int d = any(draws);
        int kind = draws.below(54);
        try {
            if (kind < 18) {
                callState(x, kind, a, b, c, d);
            } else if (kind < 36) {
                callNumber(x, kind, a, b, c, d);
            } else {
                callSmall(x, kind, a, b, c, d);
            }
        } catch (NoSuchElementException due) {
            Checks.due("who throws it", true, kind == 34 || kind == 35);
        }
    }

    private static void callState(FusedUnit x, int kind, int a, int b, int c, int d) {
        switch (kind) {
            case 0: x.feed((long) a << 32 | b, c, (long) d << 7); break;
            case 1: x.form(a, b); break;
            case 2: x.plan(); break;
            case 3: x.reg(a); break;
            case 4: case 5: x.set(a & 3, b); break;
            case 6: x.fma(a, b, c, d); break;
            case 7: case 8: x.fma(a & 1, b & 1, c & 1, d & 1); break;
            case 9: x.mode(a); break;
            case 10: x.clear(); break;
            case 11: x.use(a); break;
            case 12: x.undo(); break;
            case 13: x.judged(a); break;
            case 14: x.mark(a & 7, b % 2 == 0); break;
            case 15: x.count(a); break;
            case 16: x.plans(a, b, c & 3); break;
            default: x.often(a); x.asked(); x.results(); break;
        }
    }

    private static void callNumber(FusedUnit x, int kind, int a, int b, int c, int d) {
        switch (kind) {
            case 18: x.sort(a); break;
            case 19: x.order(a, b); break;
            case 20: x.above(a); x.below(b); break;
            case 21: x.sum(a, b, c, d % 6); break;
            case 22: x.marks(a, b, c, d); break;
            case 23: x.exact(a, b, c); x.half(a, b, c); break;
            case 24: x.spread(a, b, c); break;
            case 25: x.twice(a, b, c); break;
            case 26: x.remains(a, b); break;
            case 27: x.part(a, b); break;
            case 28: x.join(a, b, c); break;
            case 29: x.scale(a, b); break;
            case 30: x.side(a, b, c, d % 6); break;
            case 31: x.apart(a, b); break;
            case 32: x.poly(a, b & 1); x.total(); break;
            case 33: x.settles(a & 1, b & 1, c & 1, d & 1); x.settles(a, b, c, d); break;
            case 34: x.gap(a, b, c); break;
            default: x.whole(a); break;
        }
    }

    private static void callSmall(FusedUnit x, int kind, int a, int b, int c, int d) {
        switch (kind) {
            case 36: x.of(a); break;
            case 37: x.into(a & 3, b); break;
            case 38: x.exacts(a, b); break;
            case 39: x.swallows(a, b); break;
            case 40: x.raises(a, b, c); break;
            case 41: x.ties(a, b); break;
            case 42: x.root(a); break;
            case 43: x.inverse(a); break;
            case 44: x.times(a, b, c, d % 6); break;
            case 45: x.see(a, b % 2 == 0); break;
            case 46: x.fit(); x.least(); break;
            case 47: x.leads((long) a * b, (long) c * d); break;
            case 48: x.off((long) a << 31, c); break;
            case 49: if (d % 16 == 0) { x.unit(); } break;
            default: x.fma(a % 3, b % 3, c % 3, d % 3); break;
        }
    }
}
