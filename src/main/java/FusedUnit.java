import java.util.NoSuchElementException;

/** Multiply-and-add unit with one rounding, told in a language; ../shared/DOC.md says what each call answers. */
public final class FusedUnit {
    public static final int NONE = -1;

    /** The refusal of those calls for which NONE would be an answer. */
    private static final int REFUSED = -2;

    private static final int PLAIN = 0;
    private static final int FLUSH = 1;
    private static final int SAT = 2;
    private static final int WHOLE = 3;

    private static final int MODES = 6;
    private static final int TO_NEAREST_EVEN = 0;
    private static final int TO_NOUGHT = 1;
    private static final int DOWN = 2;
    private static final int UP = 3;
    private static final int TO_NEAREST_AWAY = 4;

    private static final int INVALID = 1;
    private static final int OVERFLOW = 2;
    private static final int UNDERFLOW = 4;
    private static final int INEXACT = 8;
    private static final int ALL_FLAGS = 15;

    private static final int MOST_SIGNS = 1000;
    private static final int MOST_FORMS = 4;
    private static final int MOST_REGISTERS = 6;
    private static final int MOST_LINES = 30;
    private static final int MOST_UNDONE = 16;
    private static final int MOST_MARKS = 4;
    private static final int MOST_SEEN = 8;
    private static final int MOST_CALLS = 512;
    private static final int MOST_SETTLING = 60;
    private static final int SMALL = 9;

    private static final int CLASS_NOUGHT = 0;
    private static final int CLASS_SUBNORMAL = 1;
    private static final int CLASS_NORMAL = 2;
    private static final int CLASS_INF = 3;
    private static final int CLASS_NAN = 4;

    private static final int END = 0;
    private static final int WORD = 1;
    private static final int NUMBER = 2;
    private static final int NO_TOKEN = 3;

    private static final int OUT_OF_PLACE = 1;
    private static final int UNKNOWN_NAME = 2;
    private static final int TOLD_ALREADY = 3;
    private static final int WRONG_NUMBER = 4;
    private static final int ONE_TOO_MANY = 5;

    private static final int LINE_FMA = 0;
    private static final int LINE_MODE = 1;
    private static final int LINE_CLEAR = 2;
    private static final int LINE_USE = 3;

    private static final int TRAIT_EXACT = 0;
    private static final int TRAIT_SWALLOWED = 1;
    private static final int TRAIT_RAISING = 2;
    private static final int TRAIT_HALF = 3;

    private final Tape tape = new Tape();
    private final Adder adder = new Adder();
    private final Book book = new Book();
    private final Past past = new Past();
    private final State now = new State();
    private final State trial = new State();
    private final State[] laid = new State[MOST_MARKS];
    private final boolean[] isLaid = new boolean[MOST_MARKS];
    private final int[] seenBits = new int[MOST_SEEN];
    private final boolean[] seenIs = new boolean[MOST_SEEN];
    private final int[] told = new int[MODES];
    private Unit unit = new Unit();
    private Unit spareUnit = new Unit();
    private Plan plan = new Plan();
    private Plan sparePlan = new Plan();
    private int seen;
    private long drawn;

    public FusedUnit() {
        for (int i = 0; i < MOST_MARKS; i++) {
            laid[i] = new State();
        }
    }

    // ---- what is told ----

    public int feed(long a, long b, long c) {
        tape.takeBytes(a);
        tape.takeBytes(b);
        tape.takeBytes(c);
        return tape.length;
    }

    public int unit() {
        Unit fresh = spareUnit;
        fresh.empty();
        new UnitReader(tape, fresh).readAll();
        tape.empty();
        if (tape.fault != 0) {
            return tape.fault;
        }
        spareUnit = unit;
        unit = fresh;
        begin();
        return 0;
    }

    /** All that a new UNIT leaves nothing of. */
    private void begin() {
        now.empty();
        now.form = unit.forms > 0 ? 0 : NONE;
        adder.law = unit.law;
        plan.lines = 0;
        book.empty();
        past.steps = 0;
        seen = 0;
        for (int i = 0; i < MOST_MARKS; i++) {
            isLaid[i] = false;
        }
    }

    public int plan() {
        Plan fresh = sparePlan;
        fresh.lines = 0;
        new PlanReader(tape, unit, fresh).readAll();
        tape.empty();
        if (tape.fault != 0) {
            return tape.fault;
        }
        sparePlan = plan;
        plan = fresh;
        return 0;
    }

    public int form(int form, int what) {
        Form asked = unit.formAt(form);
        if (asked == null) {
            return NONE;
        }
        switch (what) {
            case 0:
                return asked.kind;
            case 1:
                return asked.exponentBits;
            case 2:
                return asked.fractionBits;
            case 3:
                return asked.bias;
            case 4:
                return asked.greatest;
            case 5:
                return asked.nan;
            default:
                return NONE;
        }
    }

    // ---- by hand ----

    public int reg(int reg) {
        return formInUse() == null || !isRegister(reg) ? NONE : now.read(reg);
    }

    public int set(int reg, int bits) {
        Form form = formInUse();
        if (form == null || !isRegister(reg) || !form.holds(bits)) {
            return NONE;
        }
        past.keep(now, false);
        int was = now.read(reg);
        now.put(reg, bits);
        return was;
    }

    public int fma(int into, int a, int b, int c) {
        Form form = formInUse();
        if (form == null || !areRegisters(into, a, b, c)) {
            return NONE;
        }
        past.keep(now, true);
        int first = now.read(a);
        int second = now.read(b);
        int third = now.read(c);
        int raised = fuse(now, into, a, b, c);
        book.note(now.form, now.mode, first, second, third, resultKey(form, now.form, adder.bits));
        return raised;
    }

    public int mode(int mode) {
        if (!isMode(mode)) {
            return NONE;
        }
        past.keep(now, false);
        int was = now.mode;
        now.mode = mode;
        return was;
    }

    public int clear() {
        past.keep(now, false);
        int were = now.flags;
        now.flags = 0;
        return were;
    }

    public int use(int form) {
        if (unit.formAt(form) == null) {
            return NONE;
        }
        past.keep(now, false);
        seen = 0;
        return turn(now, form);
    }

    public boolean undo() {
        if (past.steps == 0) {
            return false;
        }
        if (past.takeBack(now)) {
            book.forgetLast();
        }
        seen = 0;
        return true;
    }

    public int judged(int what) {
        if (what < 0 || what > 2) {
            return REFUSED;
        }
        trial.copy(now);
        int firstWrong = NONE;
        int raising = 0;
        for (int i = 0; i < plan.lines; i++) {
            int were = trial.flags;
            if (!follow(i) && firstWrong == NONE) {
                firstWrong = i;
            }
            if ((trial.flags & ~were) != 0) {
                raising++;
            }
        }
        return what == 0 ? firstWrong : what == 1 ? trial.flags : raising;
    }

    /** One line of the PLAN, on the trial; false where it can't be. */
    private boolean follow(int line) {
        switch (plan.word(line, 0)) {
            case LINE_FMA:
                if (unit.formAt(trial.form) == null) {
                    return false;
                }
                fuse(trial, plan.word(line, 1), plan.word(line, 2), plan.word(line, 3), plan.word(line, 4));
                return true;
            case LINE_MODE:
                trial.mode = plan.word(line, 1);
                return true;
            case LINE_CLEAR:
                trial.flags = 0;
                return true;
            default:
                turn(trial, plan.word(line, 1));
                return true;
        }
    }

    // ---- numbers ----

    public int sort(int bits) {
        Form form = formHolding(bits);
        return form == null ? NONE : form.classOf(bits);
    }

    public int order(int bits, int other) {
        Form form = formHolding(bits);
        if (form == null || !form.holds(other)) {
            return REFUSED;
        }
        if (form.isNan(bits) || form.isNan(other)) {
            return 2;
        }
        int rank = form.rank(bits);
        int otherRank = form.rank(other);
        return rank < otherRank ? -1 : rank > otherRank ? 1 : 0;
    }

    public int above(int bits) {
        Form form = formHolding(bits);
        return form == null ? NONE : form.next(bits);
    }

    public int below(int bits) {
        Form form = formHolding(bits);
        return form == null ? NONE : form.turned(form.next(form.turned(bits)));
    }

    public int part(int bits, int what) {
        Form form = formHolding(bits);
        if (form == null) {
            return NONE;
        }
        switch (what) {
            case 0:
                return form.isMinus(bits) ? 1 : 0;
            case 1:
                return form.exponent(bits);
            case 2:
                return form.fraction(bits);
            default:
                return NONE;
        }
    }

    public int join(int sign, int exponent, int fraction) {
        Form form = formInUse();
        if (form == null || sign < 0 || sign > 1 || exponent < 0 || exponent >= 1 << form.exponentBits) {
            return NONE;
        }
        if (fraction < 0 || fraction >= 1 << form.fractionBits) {
            return NONE;
        }
        return (sign == 1 ? form.signBit : 0) | (exponent << form.fractionBits) | fraction;
    }

    public int scale(int bits, int n) {
        Form form = formHolding(bits);
        if (form == null || n < -400 || n > 400) {
            return NONE;
        }
        if (form.isNan(bits)) {
            return form.nan;
        }
        if (form.isInfinite(bits) || form.isNought(bits)) {
            return bits;
        }
        adder.round(form, now.mode, form.isMinus(bits), form.weight(bits), form.place(bits) + n);
        return adder.bits;
    }

    public int apart(int bits, int other) {
        Form form = formHolding(bits);
        if (form == null || !form.holds(other) || form.isNan(bits) || form.isNan(other)) {
            return NONE;
        }
        return Math.abs(form.rank(bits) - form.rank(other));
    }

    public int whole(int bits) throws NoSuchElementException {
        Form form = formHolding(bits);
        if (form == null || form.isNan(bits) || form.isInfinite(bits)) {
            throw new NoSuchElementException();
        }
        boolean minus = form.isMinus(bits);
        long size = form.isNought(bits) ? 0 : adder.wholes(now.mode, minus, form.weight(bits), form.place(bits));
        long most = minus ? 1L << 31 : (1L << 31) - 1;
        if (size > most) {
            throw new NoSuchElementException();
        }
        return (int) (minus ? -size : size);
    }

    public int of(int n) {
        Form form = formInUse();
        if (form == null) {
            return NONE;
        }
        if (n == 0) {
            return 0;
        }
        long size = n;
        adder.round(form, now.mode, n < 0, size < 0 ? -size : size, 0);
        return adder.bits;
    }

    public int into(int form, int bits) {
        Form from = formHolding(bits);
        Form to = unit.formAt(form);
        if (from == null || to == null) {
            return NONE;
        }
        adder.convert(from, to, now.mode, bits);
        return adder.bits;
    }

    // ---- sums ----

    public int sum(int a, int b, int c, int mode) {
        return isMode(mode) && add(a, b, c, mode) ? adder.bits : NONE;
    }

    public int marks(int a, int b, int c, int mode) {
        return isMode(mode) && add(a, b, c, mode) ? adder.flags : NONE;
    }

    public boolean exact(int a, int b, int c) {
        return add(a, b, c, now.mode) && (adder.flags & INEXACT) == 0;
    }

    public int spread(int a, int b, int c) {
        int different = 0;
        for (int mode = TO_NEAREST_EVEN; mode <= TO_NEAREST_AWAY; mode++) {
            if (!add(a, b, c, mode)) {
                return NONE;
            }
            told[mode] = adder.bits;
            boolean isNew = true;
            for (int other = 0; other < mode; other++) {
                isNew = isNew && told[other] != told[mode];
            }
            different += isNew ? 1 : 0;
        }
        return different;
    }

    public boolean twice(int a, int b, int c) {
        Form form = formInUse();
        if (form == null || !add(a, b, c, now.mode)) {
            return false;
        }
        int once = adder.bits;
        adder.add(form, now.mode, a, b, 0);
        adder.add(form, now.mode, form.one(), adder.bits, c);
        return adder.bits != once;
    }

    public int remains(int a, int b) {
        Form form = formInUse();
        if (form == null || !add(a, b, 0, now.mode)) {
            return NONE;
        }
        adder.add(form, now.mode, a, b, form.turned(adder.bits));
        return adder.bits;
    }

    public boolean half(int a, int b, int c) {
        return add(a, b, c, now.mode) && adder.isHalf();
    }

    public int side(int a, int b, int c, int mode) {
        Form form = formInUse();
        if (form == null || !isMode(mode) || !add(a, b, c, mode) || form.isNan(adder.bits)) {
            return REFUSED;
        }
        return adder.lean;
    }

    public int poly(int x, int what) {
        Form form = formHolding(x);
        if (form == null || what < 0 || what > 1 || unit.registers == 0) {
            return NONE;
        }
        int value = now.read(unit.registers - 1);
        int flags = 0;
        for (int i = unit.registers - 2; i >= 0; i--) {
            adder.add(form, now.mode, value, x, now.read(i));
            value = adder.bits;
            flags |= adder.flags;
        }
        return what == 0 ? value : flags;
    }

    public int total() {
        Form form = formInUse();
        if (form == null) {
            return NONE;
        }
        int value = 0;
        for (int i = 0; i < unit.registers; i++) {
            adder.add(form, now.mode, form.one(), now.read(i), value);
            value = adder.bits;
        }
        return value;
    }

    public int settles(int into, int a, int b, int c) {
        if (formInUse() == null || !areRegisters(into, a, b, c)) {
            return NONE;
        }
        trial.copy(now);
        for (int changes = 0; changes <= MOST_SETTLING; changes++) {
            int was = trial.read(into);
            fuse(trial, into, a, b, c);
            if (trial.read(into) == was) {
                return changes;
            }
        }
        return NONE;
    }

    public int gap(int a, int b, int c) throws NoSuchElementException {
        Form form = formHolding(a);
        if (form == null || !form.holds(b) || !form.holds(c)) {
            throw new NoSuchElementException();
        }
        if (!form.hasPlaces(a) || !form.hasPlaces(b) || !form.hasPlaces(c)) {
            throw new NoSuchElementException();
        }
        return form.place(a) + form.place(b) - form.place(c);
    }

    public int leads(long x, long y) {
        return foretold(x, y);
    }

    public int off(long x, long y) {
        long both = x + y;
        int alike = 64 - bitLength(both < 0 ? ~both : both);
        return alike - foretold(x, y);
    }

    /** How many BITS stand ahead of the first one that is foretold, all 64 looked at at once. */
    private static int foretold(long x, long y) {
        long oneHas = x ^ y;
        long bothHave = x & y;
        long noneHas = ~(x | y);
        long oneAbove = oneHas >>> 1;
        long noneBelow = (noneHas << 1) | 1;
        long bothBelow = bothHave << 1;
        long changed = (bothHave & ~noneBelow) | (noneHas & ~bothBelow);
        long stayed = (noneHas & ~noneBelow) | (bothHave & ~bothBelow);
        return 64 - bitLength((oneAbove & changed) | (~oneAbove & stayed));
    }

    // ---- small forms ----

    public int exacts(int a, int b) {
        return addendsWith(a, b, TRAIT_EXACT, 0);
    }

    public int swallows(int a, int b) {
        return addendsWith(a, b, TRAIT_SWALLOWED, 0);
    }

    public int raises(int a, int b, int flags) {
        return flags < 1 || flags > ALL_FLAGS ? NONE : addendsWith(a, b, TRAIT_RAISING, flags);
    }

    public int ties(int a, int b) {
        return addendsWith(a, b, TRAIT_HALF, 0);
    }

    /** For how many BITS as C the SUM has this trait. */
    private int addendsWith(int a, int b, int trait, int flags) {
        Form form = formInUse();
        if (form == null || !isSmallHolding(a, b)) {
            return NONE;
        }
        int many = 0;
        for (int c = 0; c < form.many(); c++) {
            adder.add(form, now.mode, a, b, c);
            if (lastSumHas(trait, c, flags)) {
                many++;
            }
        }
        return many;
    }

    private boolean lastSumHas(int trait, int c, int flags) {
        switch (trait) {
            case TRAIT_EXACT:
                return (adder.flags & INEXACT) == 0;
            case TRAIT_SWALLOWED:
                return adder.bits == c;
            case TRAIT_RAISING:
                return (adder.flags & flags) == flags;
            default:
                return adder.isHalf();
        }
    }

    public int root(int bits) {
        Form form = formInUse();
        if (form == null || !isSmallHolding(bits, bits)) {
            return NONE;
        }
        int less = form.turned(bits);
        for (int x = form.top(); x >= 0; x--) {
            adder.add(form, now.mode, x, x, less);
            if (!form.isNan(adder.bits) && form.rank(adder.bits) <= 0) {
                return x;
            }
        }
        return NONE;
    }

    public int inverse(int bits) {
        Form form = formInUse();
        if (form == null || !isSmallHolding(bits, bits)) {
            return NONE;
        }
        int minusOne = form.turned(form.one());
        int best = NONE;
        int least = form.many();
        for (int x = 0; x < form.many(); x++) {
            adder.add(form, now.mode, x, bits, minusOne);
            if (!form.isNan(adder.bits) && form.size(adder.bits) < least) {
                least = form.size(adder.bits);
                best = x;
            }
        }
        return best;
    }

    // ---- what was asked ----

    public int asked() {
        return book.sums;
    }

    public int often(int i) {
        return book.oftenAt(i);
    }

    public int times(int a, int b, int c, int mode) {
        Form form = formHolding(a);
        if (form == null || !form.holds(b) || !form.holds(c) || !isMode(mode)) {
            return NONE;
        }
        int place = book.find(now.form, mode, a, b, c);
        return place == NONE ? 0 : book.oftenAt(place);
    }

    public int results() {
        return book.different;
    }

    /** One number for all results that count as one. */
    private static int resultKey(Form form, int number, int bits) {
        if (form.isNought(bits)) {
            return -1;
        }
        return form.isNan(bits) ? -2 : (number << 27) | bits;
    }

    // ---- what was seen ----

    public boolean see(int bits, boolean is) {
        Form form = formHolding(bits);
        if (form == null || !form.isSmall() || seen < 0 || seen >= MOST_SEEN) {
            return false;
        }
        seenBits[seen] = bits;
        seenIs[seen] = is;
        seen++;
        return true;
    }

    public int fit() {
        Form form = formInUse();
        if (form == null || !form.isSmall()) {
            return NONE;
        }
        int many = 0;
        for (int bits = 0; bits < form.many(); bits++) {
            if (fitsSeen(form, bits)) {
                many++;
            }
        }
        return many;
    }

    public int least() {
        Form form = formInUse();
        if (form == null || !form.isSmall()) {
            return NONE;
        }
        for (int bits = 0; bits < form.many(); bits++) {
            if (fitsSeen(form, bits)) {
                return bits;
            }
        }
        return NONE;
    }

    private boolean fitsSeen(Form form, int bits) {
        for (int i = 0; i < seen && i < MOST_SEEN; i++) {
            adder.add(form, now.mode, bits, bits, seenBits[i]);
            boolean is = !form.isNan(adder.bits) && form.rank(adder.bits) >= 0;
            if (is != seenIs[i]) {
                return false;
            }
        }
        return true;
    }

    // ---- plans by draws, marks, counts ----

    public int plans(int seed, int many, int what) {
        Form form = formInUse();
        if (form == null || unit.registers == 0 || seed < 0 || seed > 9999) {
            return NONE;
        }
        if (many < 1 || many > 99 || what < 0 || what > 2) {
            return NONE;
        }
        trial.copy(now);
        drawn = seed;
        int inexact = 0;
        for (int i = 0; i < many; i++) {
            int into = draw(unit.registers);
            int a = draw(unit.registers);
            int b = draw(unit.registers);
            int c = draw(unit.registers);
            if ((fuse(trial, into, a, b, c) & INEXACT) != 0) {
                inexact++;
            }
            trial.mode = draw(MODES);
        }
        return what == 0 ? trial.flags : what == 1 ? nansOnTrial(form) : inexact;
    }

    private int draw(int below) {
        drawn = (drawn * 1103515245L + 12345L) & 0x7fffffffL;
        return below <= 0 ? 0 : (int) ((drawn / 65536) % below);
    }

    private int nansOnTrial(Form form) {
        int many = 0;
        for (int i = 0; i < unit.registers; i++) {
            if (form.isNan(trial.read(i))) {
                many++;
            }
        }
        return many;
    }

    public boolean mark(int mark, boolean back) {
        if (mark < 0 || mark >= MOST_MARKS) {
            return false;
        }
        if (!back) {
            laid[mark].copy(now);
            isLaid[mark] = true;
            return true;
        }
        if (!isLaid[mark]) {
            return false;
        }
        now.copy(laid[mark]);
        past.steps = 0;
        seen = 0;
        return true;
    }

    public int count(int what) {
        switch (what) {
            case 0:
                return unit.forms;
            case 1:
                return unit.registers;
            case 2:
                return now.form;
            case 3:
                return now.mode;
            case 4:
                return now.flags;
            case 5:
                return plan.lines;
            case 6:
                return seen;
            case 7:
                return past.steps;
            case 8:
                return tape.length;
            default:
                return NONE;
        }
    }

    // ---- what many calls need ----

    private Form formInUse() {
        return unit.formAt(now.form);
    }

    /** The FORM in use, if these are BITS of it; else null. */
    private Form formHolding(int bits) {
        Form form = formInUse();
        return form == null || !form.holds(bits) ? null : form;
    }

    private boolean isSmallHolding(int a, int b) {
        Form form = formHolding(a);
        return form != null && form.holds(b) && form.isSmall();
    }

    private boolean isRegister(int reg) {
        return reg >= 0 && reg < unit.registers;
    }

    private boolean areRegisters(int into, int a, int b, int c) {
        return isRegister(into) && isRegister(a) && isRegister(b) && isRegister(c);
    }

    private static boolean isMode(int mode) {
        return mode >= 0 && mode < MODES;
    }

    /** The SUM of three BITS, left in the adder; false if they are none of the FORM in use. */
    private boolean add(int a, int b, int c, int mode) {
        Form form = formHolding(a);
        if (form == null || !form.holds(b) || !form.holds(c)) {
            return false;
        }
        adder.add(form, mode, a, b, c);
        return true;
    }

    /** An FMA on a state: the FLAGS that it raises. */
    private int fuse(State state, int into, int a, int b, int c) {
        Form form = unit.formAt(state.form);
        if (form == null) {
            return 0;
        }
        adder.add(form, state.mode, state.read(a), state.read(b), state.read(c));
        state.put(into, adder.bits);
        state.flags |= adder.flags;
        return adder.flags;
    }

    /** USE on a state: the FLAGS that it raises. */
    private int turn(State state, int form) {
        Form from = unit.formAt(state.form);
        Form to = unit.formAt(form);
        if (from == null || to == null) {
            return 0;
        }
        int raised = 0;
        for (int i = 0; i < unit.registers; i++) {
            adder.convert(from, to, state.mode, state.read(i));
            state.put(i, adder.bits);
            raised |= adder.flags;
        }
        state.form = form;
        state.flags |= raised;
        return raised;
    }

    /** How many BITS there are from the highest 1 down. */
    private static int bitLength(long x) {
        int length = 0;
        long left = x;
        for (int step = 32; step > 0; step >>= 1) {
            if (left >>> step != 0) {
                left = left >>> step;
                length += step;
            }
        }
        return left == 0 ? 0 : length + 1;
    }

    /** A form of numbers: what its BITS mean. */
    private static final class Form {
        private final int kind;
        private final int exponentBits;
        private final int fractionBits;
        private final int bias;
        private final int signBit;
        private final int infinity;
        private final int greatest;
        private final int nan;

        Form(int kind, int exponentBits, int fractionBits) {
            this.kind = kind;
            this.exponentBits = exponentBits;
            this.fractionBits = fractionBits;
            bias = (1 << (exponentBits - 1)) - 1;
            signBit = 1 << (exponentBits + fractionBits);
            // A whole FORM has no INF: no size reaches its sign, so all tests for INF and NAN fail.
            infinity = kind == WHOLE ? signBit : ((1 << exponentBits) - 1) << fractionBits;
            greatest = infinity - 1;
            nan = kind == WHOLE ? NONE : infinity | (1 << (fractionBits - 1));
        }

        int many() {
            return 2 * signBit;
        }

        boolean holds(int bits) {
            return bits >= 0 && bits < 2 * signBit;
        }

        boolean saturates() {
            return kind == SAT || kind == WHOLE;
        }

        boolean isSmall() {
            return exponentBits + fractionBits <= SMALL;
        }

        int size(int bits) {
            return bits & (signBit - 1);
        }

        boolean isMinus(int bits) {
            return (bits & signBit) != 0;
        }

        boolean isNought(int bits) {
            return size(bits) == 0;
        }

        boolean isInfinite(int bits) {
            return size(bits) == infinity;
        }

        boolean isNan(int bits) {
            return size(bits) > infinity;
        }

        boolean isSubnormal(int bits) {
            return !isNought(bits) && exponent(bits) == 0;
        }

        int classOf(int bits) {
            if (isNought(bits)) {
                return CLASS_NOUGHT;
            }
            if (isSubnormal(bits)) {
                return CLASS_SUBNORMAL;
            }
            if (isNan(bits)) {
                return CLASS_NAN;
            }
            return isInfinite(bits) ? CLASS_INF : CLASS_NORMAL;
        }

        int exponent(int bits) {
            return size(bits) >> fractionBits;
        }

        int fraction(int bits) {
            return bits & ((1 << fractionBits) - 1);
        }

        /** The fraction with its leading one, if it has one. */
        int weight(int bits) {
            int size = size(bits);
            int leadingOne = 1 << fractionBits;
            return size < leadingOne ? size : (size & (leadingOne - 1)) | leadingOne;
        }

        /** The weight that goes into a sum. */
        int addend(int bits) {
            int weight = weight(bits);
            return kind == FLUSH && weight < 1 << fractionBits ? 0 : weight;
        }

        /** The power of 2 that the last BIT of the fraction stands for. */
        int place(int bits) {
            return Math.max(exponent(bits), 1) - bias - fractionBits;
        }

        boolean hasPlaces(int bits) {
            return size(bits) < infinity && addend(bits) != 0;
        }

        int one() {
            return bias << fractionBits;
        }

        /** The greatest that there is, INF if there is one. */
        int top() {
            return kind == WHOLE ? greatest : infinity;
        }

        /** Grows with the numbers; either NOUGHT is 0. */
        int rank(int bits) {
            return isMinus(bits) ? -size(bits) : size(bits);
        }

        int turned(int bits) {
            return isNan(bits) ? bits : bits ^ signBit;
        }

        int next(int bits) {
            if (isNan(bits)) {
                return bits;
            }
            if (isNought(bits)) {
                return 1;
            }
            if (isMinus(bits)) {
                return bits - 1;
            }
            return bits == top() ? bits : bits + 1;
        }

        int infinityOf(boolean minus) {
            return minus ? infinity | signBit : infinity;
        }

        int greatestOf(boolean minus) {
            return minus ? greatest | signBit : greatest;
        }

        int noughtOf(boolean minus) {
            return minus ? signBit : 0;
        }
    }

    /** Multiplies, adds and rounds; what came of the last one stays in its fields. */
    private static final class Adder {
        /** The highest BIT of either addend in the window; what comes of two keeps below the sign of a long. */
        private static final int WINDOW = 60;

        /** Of each of 16 cases of the facts (minus 1, odd 2, guard 4, rest 8) one BIT: whether one's own law says so. */
        private int law;
        private int bits;
        private int flags;
        /** Whether what was told is less (-1) or more (1) than what it is exactly. */
        private int lean;
        private boolean isRounded;
        private long kept;
        private boolean guard;
        private boolean rest;

        boolean isHalf() {
            return isRounded && guard && !rest;
        }

        private void tell(int bits, int flags) {
            this.bits = bits;
            this.flags = flags;
            lean = 0;
            isRounded = false;
        }

        void add(Form form, int mode, int a, int b, int c) {
            boolean minus = form.isMinus(a) != form.isMinus(b);
            if (form.isNan(a) || form.isNan(b) || form.isNan(c)) {
                tell(form.nan, 0);
            } else if (form.isInfinite(a) || form.isInfinite(b)) {
                addToInfinite(form, a, b, c);
            } else if (form.isInfinite(c)) {
                tell(c, 0);
            } else if (form.addend(a) == 0 || form.addend(b) == 0) {
                addToNought(form, mode, minus, c);
            } else {
                long product = (long) form.addend(a) * form.addend(b);
                addToProduct(form, mode, minus, product, form.place(a) + form.place(b), c);
            }
        }

        private void addToInfinite(Form form, int a, int b, int c) {
            boolean minus = form.isMinus(a) != form.isMinus(b);
            boolean byNought = form.addend(a) == 0 || form.addend(b) == 0;
            boolean against = form.isInfinite(c) && form.isMinus(c) != minus;
            if (byNought || against) {
                tell(form.nan, INVALID);
            } else {
                tell(form.infinityOf(minus), 0);
            }
        }

        private void addToNought(Form form, int mode, boolean minus, int c) {
            boolean minusC = form.isMinus(c);
            if (form.addend(c) != 0) {
                round(form, mode, minusC, form.addend(c), form.place(c));
            } else {
                tell(form.noughtOf(minus == minusC ? minus : mode == DOWN), 0);
            }
        }

        private void addToProduct(Form form, int mode, boolean minus, long product, int place, int c) {
            long addend = form.addend(c);
            if (addend == 0) {
                round(form, mode, minus, product, place);
                return;
            }
            int shift = WINDOW - bitLength(product);
            int shiftC = WINDOW - bitLength(addend);
            int ahead = (place - shift) - (form.place(c) - shiftC);
            long one = shifted(product << shift, -ahead);
            long other = shifted(addend << shiftC, ahead);
            long both = (minus ? -one : one) + (form.isMinus(c) ? -other : other);
            if (both == 0) {
                tell(form.noughtOf(mode == DOWN), 0);
            } else {
                round(form, mode, both < 0, both < 0 ? -both : both, place - shift + Math.max(-ahead, 0));
            }
        }

        /**
         * What falls out of the window need not be known: anything falls out only of what stands so far below the
         * other one that all of it lies behind guard, and what stays of it, 1 at least, tells that there is a rest.
         */
        private static long shifted(long size, int by) {
            if (by <= 0) {
                return size;
            }
            return by >= WINDOW ? 1 : size >>> by;
        }

        /** ROUNDED: of size times 2 to the power of place, size being more than 0. */
        void round(Form form, int mode, boolean minus, long size, int place) {
            int highest = bitLength(size) - 1 + place;
            int lowest = 1 - form.bias - form.fractionBits;
            int last = Math.max(highest - form.fractionBits, lowest);
            boolean tiny = highest < 1 - form.bias;
            cut(size, last - place);
            isRounded = true;
            boolean more = goesUp(mode, minus, (kept & 1) == 1, guard, rest);
            long told = ((long) (last - lowest) << form.fractionBits) + kept + (more ? 1 : 0);
            if (told > form.greatest) {
                // Beyond the GREATEST it is INF just where one that is odd, with guard and rest, would be one more.
                boolean toInfinity = !form.saturates() && goesUp(mode, minus, true, true, true);
                int beyond = toInfinity ? form.infinityOf(minus) : form.greatestOf(minus);
                settle(beyond, OVERFLOW | INEXACT, minus, toInfinity ? 1 : -1);
            } else if (tiny && form.kind == FLUSH) {
                settle(form.noughtOf(minus), UNDERFLOW | INEXACT, minus, -1);
            } else if (guard || rest) {
                int raised = tiny ? UNDERFLOW | INEXACT : INEXACT;
                settle(form.noughtOf(minus) | (int) told, raised, minus, more ? 1 : -1);
            } else {
                settle(form.noughtOf(minus) | (int) told, 0, minus, 0);
            }
        }

        private void settle(int bits, int flags, boolean minus, int farther) {
            this.bits = bits;
            this.flags = flags;
            lean = minus ? -farther : farther;
        }

        /** Takes the last BITS off: what is kept, the first one that is not, the others. */
        private void cut(long size, int dropped) {
            if (dropped <= 0) {
                kept = size << -dropped;
                guard = false;
                rest = false;
            } else if (dropped > 62) {
                kept = 0;
                guard = false;
                rest = true;
            } else {
                kept = size >>> dropped;
                guard = ((size >>> (dropped - 1)) & 1) == 1;
                rest = (size & ((1L << (dropped - 1)) - 1)) != 0;
            }
        }

        private boolean goesUp(int mode, boolean minus, boolean odd, boolean guard, boolean rest) {
            switch (mode) {
                case TO_NEAREST_EVEN:
                    return guard && (rest || odd);
                case TO_NOUGHT:
                    return false;
                case DOWN:
                    return minus && (guard || rest);
                case UP:
                    return !minus && (guard || rest);
                case TO_NEAREST_AWAY:
                    return guard;
                default:
                    int facts = (minus ? 1 : 0) | (odd ? 2 : 0) | (guard ? 4 : 0) | (rest ? 8 : 0);
                    return (guard || rest) && ((law >> facts) & 1) == 1;
            }
        }

        /** The whole ones of size times 2 to the power of place, without sign; far beyond an int some great number. */
        long wholes(int mode, boolean minus, long size, int place) {
            if (bitLength(size) + place > 40) {
                return 1L << 40;
            }
            cut(size, -place);
            return kept + (goesUp(mode, minus, (kept & 1) == 1, guard, rest) ? 1 : 0);
        }

        /** What USE of a FORM makes of BITS of another one. */
        void convert(Form from, Form to, int mode, int bits) {
            boolean minus = from.isMinus(bits);
            boolean toWhole = to.kind == WHOLE;
            if (from.isNan(bits)) {
                tell(toWhole ? 0 : to.nan, toWhole ? INVALID : 0);
            } else if (from.isInfinite(bits)) {
                tell(toWhole ? to.greatestOf(minus) : to.infinityOf(minus), toWhole ? INVALID : 0);
            } else if (from.isNought(bits)) {
                tell(to.noughtOf(minus), 0);
            } else {
                round(to, mode, minus, from.weight(bits), from.place(bits));
            }
        }
    }

    /** What SET, FMA, MODE, CLEAR and USE change. */
    private static final class State {
        private final int[] registers = new int[MOST_REGISTERS];
        private int form = NONE;
        private int mode = TO_NEAREST_EVEN;
        private int flags;

        void empty() {
            mode = TO_NEAREST_EVEN;
            flags = 0;
            for (int i = 0; i < MOST_REGISTERS; i++) {
                registers[i] = 0;
            }
        }

        void copy(State other) {
            form = other.form;
            mode = other.mode;
            flags = other.flags;
            for (int i = 0; i < MOST_REGISTERS; i++) {
                registers[i] = other.registers[i];
            }
        }

        int read(int i) {
            return i >= 0 && i < MOST_REGISTERS ? registers[i] : 0;
        }

        void put(int i, int bits) {
            if (i >= 0 && i < MOST_REGISTERS) {
                registers[i] = bits;
            }
        }
    }

    /** The states ahead of the last changes, in a ring. */
    private static final class Past {
        /** The places of the ring, a power of 2, less 1. */
        private static final int RING = MOST_UNDONE - 1;

        private final State[] states = new State[MOST_UNDONE];
        private final boolean[] bySum = new boolean[MOST_UNDONE];
        private int next;
        private int steps;

        Past() {
            for (int i = 0; i < MOST_UNDONE; i++) {
                states[i] = new State();
            }
        }

        void keep(State state, boolean isSum) {
            states[next & RING].copy(state);
            bySum[next & RING] = isSum;
            next++;
            steps = Math.min(steps + 1, MOST_UNDONE);
        }

        /** Whether what is taken back was an FMA. */
        boolean takeBack(State state) {
            next--;
            steps--;
            state.copy(states[next & RING]);
            return bySum[next & RING];
        }
    }

    /** Which SUMS were ASKED, each once; the last one that was asked can be forgotten, so the rows end with the newest. */
    private static final class Book {
        private final int[] forms = new int[MOST_CALLS];
        private final int[] modes = new int[MOST_CALLS];
        private final int[] lesses = new int[MOST_CALLS];
        private final int[] mores = new int[MOST_CALLS];
        private final int[] addends = new int[MOST_CALLS];
        private final int[] keys = new int[MOST_CALLS];
        private final boolean[] isNewKey = new boolean[MOST_CALLS];
        private final int[] often = new int[MOST_CALLS];
        private final int[] asked = new int[MOST_CALLS];
        private int sums;
        private int askings;
        private int different;

        void empty() {
            sums = 0;
            askings = 0;
            different = 0;
        }

        int oftenAt(int i) {
            return i >= 0 && i < sums && i < MOST_CALLS ? often[i] : NONE;
        }

        int find(int form, int mode, int a, int b, int c) {
            int less = Math.min(a, b);
            int more = Math.max(a, b);
            for (int i = 0; i < sums && i < MOST_CALLS; i++) {
                boolean sameWay = forms[i] == form && modes[i] == mode;
                if (sameWay && addends[i] == c && lesses[i] == less && mores[i] == more) {
                    return i;
                }
            }
            return NONE;
        }

        void note(int form, int mode, int a, int b, int c, int key) {
            if (askings >= MOST_CALLS || sums >= MOST_CALLS || askings < 0 || sums < 0) {
                return;
            }
            int place = find(form, mode, a, b, c);
            if (place == NONE) {
                place = sums;
                forms[place] = form;
                modes[place] = mode;
                lesses[place] = Math.min(a, b);
                mores[place] = Math.max(a, b);
                addends[place] = c;
                often[place] = 0;
                noteKey(place, key);
                sums++;
            }
            often[place]++;
            asked[askings] = place;
            askings++;
        }

        private void noteKey(int place, int key) {
            boolean isNew = true;
            for (int i = 0; i < place && i < MOST_CALLS; i++) {
                if (keys[i] == key) {
                    isNew = false;
                }
            }
            if (place >= 0 && place < MOST_CALLS) {
                keys[place] = key;
                isNewKey[place] = isNew;
            }
            if (isNew) {
                different++;
            }
        }

        void forgetLast() {
            if (askings <= 0 || askings > MOST_CALLS) {
                return;
            }
            askings--;
            int place = asked[askings];
            if (place < 0 || place >= MOST_CALLS) {
                return;
            }
            often[place]--;
            if (often[place] == 0) {
                sums--;
                if (isNewKey[place]) {
                    different--;
                }
            }
        }
    }

    /** A UNIT as it is told. */
    private static final class Unit {
        private final Form[] shapes = new Form[MOST_FORMS];
        private final long[] formNames = new long[MOST_FORMS];
        private final long[] registerNames = new long[MOST_REGISTERS];
        private int forms;
        private int registers;
        private boolean isOwned;
        private int law;

        void empty() {
            forms = 0;
            registers = 0;
            isOwned = false;
            law = 0;
        }

        Form formAt(int i) {
            return i >= 0 && i < forms && i < MOST_FORMS ? shapes[i] : null;
        }

        void tellForm(long name, Form form) {
            if (forms >= 0 && forms < MOST_FORMS) {
                formNames[forms] = name;
                shapes[forms] = form;
                forms++;
            }
        }

        void tellRegister(long name) {
            if (registers >= 0 && registers < MOST_REGISTERS) {
                registerNames[registers] = name;
                registers++;
            }
        }

        int formNamed(long name) {
            for (int i = 0; i < forms && i < MOST_FORMS; i++) {
                if (formNames[i] == name) {
                    return i;
                }
            }
            return NONE;
        }

        int registerNamed(long name) {
            for (int i = 0; i < registers && i < MOST_REGISTERS; i++) {
                if (registerNames[i] == name) {
                    return i;
                }
            }
            return NONE;
        }

        boolean isTold(long name) {
            return formNamed(name) != NONE || registerNamed(name) != NONE;
        }
    }

    /** A PLAN as it is told: of each line its word and up to four numbers. */
    private static final class Plan {
        private static final int WIDTH = 5;

        private final int[] words = new int[MOST_LINES * WIDTH];
        private int lines;

        int word(int line, int i) {
            boolean isThere = line >= 0 && line < MOST_LINES && i >= 0 && i < WIDTH;
            return isThere ? words[line * WIDTH + i] : 0;
        }

        void put(int i, int word) {
            if (lines >= 0 && lines < MOST_LINES && i >= 0 && i < WIDTH) {
                words[lines * WIDTH + i] = word;
            }
        }
    }

    /** The TAPE, and the token on it that is looked at. */
    private static final class Tape {
        private final char[] signs = new char[MOST_SIGNS];
        private int length;
        private int kind;
        private int start;
        private int behind;
        private long word;
        private int number;
        private int fault;

        void empty() {
            length = 0;
        }

        void takeBytes(long eight) {
            for (int shift = 56; shift >= 0; shift -= 8) {
                int sign = (int) (eight >>> shift) & 255;
                boolean isSign = sign == 10 || sign >= 32 && sign <= 126;
                if (isSign && length >= 0 && length < MOST_SIGNS) {
                    signs[length] = (char) sign;
                    length++;
                }
            }
        }

        private char signAt(int i) {
            return i >= 0 && i < length && i < MOST_SIGNS ? signs[i] : 0;
        }

        void begin() {
            fault = 0;
            readFrom(0);
        }

        /** The token from this place on. */
        void readFrom(int place) {
            behind = place;
            advance();
        }

        void advance() {
            start = behind;
            for (int i = 0; i < MOST_SIGNS && (signAt(start) == 10 || signAt(start) == 32); i++) {
                start++;
            }
            char sign = signAt(start);
            behind = start + 1;
            if (start >= length) {
                kind = END;
                start = length;
                behind = length;
            } else if (isLetter(sign)) {
                readWord();
            } else if (isDigit(sign)) {
                readNumber();
            } else {
                kind = isOneOf(sign, "()<=+-*;") ? sign : NO_TOKEN;
            }
        }

        private void readWord() {
            int letters = 0;
            word = 0;
            for (int i = start; i < length && isLetter(signAt(i)); i++) {
                word = (word << 5) | (signAt(i) - 'a' + 1);
                letters++;
            }
            behind = start + letters;
            kind = letters <= 8 ? WORD : NO_TOKEN;
        }

        private void readNumber() {
            int digits = 0;
            number = 0;
            for (int i = start; i < length && isDigit(signAt(i)); i++) {
                number = number * 10 + signAt(i) - '0';
                digits++;
            }
            behind = start + digits;
            kind = digits <= 4 ? NUMBER : NO_TOKEN;
        }

        private static boolean isLetter(char sign) {
            return sign >= 'a' && sign <= 'z';
        }

        private static boolean isDigit(char sign) {
            return sign >= '0' && sign <= '9';
        }

        private static boolean isOneOf(char sign, String signs) {
            return signs.indexOf(sign) >= 0;
        }

        boolean isWord(String text) {
            long sought = 0;
            for (int i = 0; i < text.length(); i++) {
                sought = (sought << 5) | (text.charAt(i) - 'a' + 1);
            }
            return kind == WORD && word == sought;
        }

        boolean isName() {
            return kind == WORD && !isWordOfLines() && !isWordWithin() && kindNamed() == NONE;
        }

        private boolean isWordOfLines() {
            boolean isOfUnit = isWord("form") || isWord("reg") || isWord("own");
            return isOfUnit || isWord("fma") || isWord("mode") || isWord("clear") || isWord("use");
        }

        private boolean isWordWithin() {
            return isWord("exp") || isWord("frac") || isWord("not") || isWord("and") || isWord("or");
        }

        /** The KIND that the token is, or NONE. */
        int kindNamed() {
            if (isWord("plain")) {
                return PLAIN;
            }
            if (isWord("flush")) {
                return FLUSH;
            }
            if (isWord("sat")) {
                return SAT;
            }
            return isWord("whole") ? WHOLE : NONE;
        }

        boolean isRight() {
            return fault == 0;
        }

        boolean goesOn() {
            return fault == 0 && kind != END;
        }

        /** Only the first one counts. */
        void blame(int kindOfFault) {
            if (fault == 0) {
                fault = kindOfFault + 16 * start;
            }
        }

        void passWord(String text) {
            if (isRight() && isWord(text)) {
                advance();
            } else {
                blame(OUT_OF_PLACE);
            }
        }

        void passSign(char sign) {
            if (isRight() && kind == sign) {
                advance();
            } else {
                blame(OUT_OF_PLACE);
            }
        }

        int passNumber(int least, int most) {
            if (!isRight() || kind != NUMBER) {
                blame(OUT_OF_PLACE);
                return least;
            }
            int found = number;
            if (found < least || found > most) {
                blame(WRONG_NUMBER);
                return least;
            }
            advance();
            return found;
        }
    }

    /** Reads a UNIT from the TAPE. */
    private static final class UnitReader {
        private final Tape tape;
        private final Unit fresh;

        UnitReader(Tape tape, Unit fresh) {
            this.tape = tape;
            this.fresh = fresh;
        }

        void readAll() {
            tape.begin();
            for (int i = 0; i <= MOST_SIGNS && tape.goesOn(); i++) {
                if (tape.isWord("form")) {
                    readForm();
                } else if (tape.isWord("reg")) {
                    readRegister();
                } else if (tape.isWord("own")) {
                    readOwn();
                } else {
                    tape.blame(OUT_OF_PLACE);
                }
            }
        }

        private void readForm() {
            if (fresh.forms == MOST_FORMS) {
                tape.blame(ONE_TOO_MANY);
                return;
            }
            tape.advance();
            long name = passNewName();
            int kind = passKind();
            tape.passWord("exp");
            int exponentBits = tape.passNumber(2, 8);
            tape.passWord("frac");
            int fractionBits = tape.passNumber(1, 18);
            tape.passSign(';');
            if (tape.isRight()) {
                fresh.tellForm(name, new Form(kind, exponentBits, fractionBits));
            }
        }

        private void readRegister() {
            if (fresh.registers == MOST_REGISTERS) {
                tape.blame(ONE_TOO_MANY);
                return;
            }
            tape.advance();
            long name = passNewName();
            tape.passSign(';');
            if (tape.isRight()) {
                fresh.tellRegister(name);
            }
        }

        private void readOwn() {
            if (fresh.isOwned) {
                tape.blame(TOLD_ALREADY);
                return;
            }
            tape.advance();
            fresh.isOwned = true;
            fresh.law = new LawReader(tape).readLaw();
            tape.passSign(';');
        }

        private long passNewName() {
            long name = tape.word;
            if (!tape.isRight() || !tape.isName()) {
                tape.blame(OUT_OF_PLACE);
            } else if (fresh.isTold(name)) {
                tape.blame(TOLD_ALREADY);
            } else {
                tape.advance();
            }
            return name;
        }

        private int passKind() {
            int kind = tape.kindNamed();
            if (tape.isRight() && kind != NONE) {
                tape.advance();
            } else {
                tape.blame(OUT_OF_PLACE);
            }
            return kind;
        }
    }

    /** Reads an E from the TAPE: once for each of the 16 cases of its facts, as it knows no others. */
    private static final class LawReader {
        private static final int CASES = 16;
        private static final int DEEPEST = 5;

        private final Tape tape;
        private int facts;

        LawReader(Tape tape) {
            this.tape = tape;
        }

        int readLaw() {
            int from = tape.start;
            int law = 0;
            for (int i = 0; i < CASES && tape.isRight(); i++) {
                facts = i;
                tape.readFrom(from);
                if (readEither(0) != 0) {
                    law |= 1 << i;
                }
            }
            return law;
        }

        private int readEither(int depth) {
            int value = readTest(depth);
            for (int i = 0; i <= MOST_SIGNS && tape.isRight(); i++) {
                boolean isAnd = tape.isWord("and");
                if (!isAnd && !tape.isWord("or")) {
                    break;
                }
                tape.advance();
                int right = readTest(depth);
                value = asFact(isAnd ? value != 0 && right != 0 : value != 0 || right != 0);
            }
            return value;
        }

        private int readTest(int depth) {
            int left = readSum(depth);
            if (!tape.isRight() || tape.kind != '<' && tape.kind != '=') {
                return left;
            }
            boolean isLess = tape.kind == '<';
            tape.advance();
            int right = readSum(depth);
            return asFact(isLess ? left < right : left == right);
        }

        private int readSum(int depth) {
            int value = readProduct(depth);
            for (int i = 0; i <= MOST_SIGNS && tape.isRight(); i++) {
                boolean isMore = tape.kind == '+';
                if (!isMore && tape.kind != '-') {
                    break;
                }
                tape.advance();
                int right = readProduct(depth);
                value = isMore ? value + right : value - right;
            }
            return value;
        }

        private int readProduct(int depth) {
            int value = readPart(depth);
            for (int i = 0; i <= MOST_SIGNS && tape.isRight() && tape.kind == '*'; i++) {
                tape.advance();
                value *= readPart(depth);
            }
            return value;
        }

        /** A part that stands within so many others. */
        private int readPart(int depth) {
            int fact = factNamed();
            boolean isNot = tape.isWord("not");
            if (!tape.isRight() || !isNot && fact == NONE && tape.kind != NUMBER && tape.kind != '(') {
                tape.blame(OUT_OF_PLACE);
                return 0;
            }
            if (depth >= DEEPEST) {
                tape.blame(ONE_TOO_MANY);
                return 0;
            }
            int kind = tape.kind;
            int number = tape.number;
            tape.advance();
            if (isNot) {
                return asFact(readPart(depth + 1) == 0);
            }
            if (kind == '(') {
                int value = readEither(depth + 1);
                if (tape.kind == ')') {
                    tape.advance();
                } else {
                    tape.blame(OUT_OF_PLACE);
                }
                return value;
            }
            return kind == NUMBER ? number : (facts >> fact) & 1;
        }

        /** Which one of the facts the token is, as they lie in a law, or NONE. */
        private int factNamed() {
            if (tape.isWord("minus")) {
                return 0;
            }
            if (tape.isWord("odd")) {
                return 1;
            }
            if (tape.isWord("guard")) {
                return 2;
            }
            return tape.isWord("rest") ? 3 : NONE;
        }

        private static int asFact(boolean is) {
            return is ? 1 : 0;
        }
    }

    /** Reads a PLAN from the TAPE, its names being those of the UNIT. */
    private static final class PlanReader {
        private final Tape tape;
        private final Unit unit;
        private final Plan fresh;

        PlanReader(Tape tape, Unit unit, Plan fresh) {
            this.tape = tape;
            this.unit = unit;
            this.fresh = fresh;
        }

        void readAll() {
            tape.begin();
            for (int i = 0; i <= MOST_SIGNS && tape.goesOn(); i++) {
                readLine();
            }
        }

        private void readLine() {
            int word = lineWord();
            if (word == NONE) {
                tape.blame(OUT_OF_PLACE);
                return;
            }
            if (fresh.lines == MOST_LINES) {
                tape.blame(ONE_TOO_MANY);
                return;
            }
            tape.advance();
            fresh.put(0, word);
            if (word == LINE_FMA) {
                for (int i = 1; i <= 4; i++) {
                    fresh.put(i, passRegister());
                }
            } else if (word == LINE_MODE) {
                fresh.put(1, tape.passNumber(0, MODES - 1));
            } else if (word == LINE_USE) {
                fresh.put(1, passForm());
            }
            tape.passSign(';');
            fresh.lines++;
        }

        private int lineWord() {
            if (tape.isWord("fma")) {
                return LINE_FMA;
            }
            if (tape.isWord("mode")) {
                return LINE_MODE;
            }
            if (tape.isWord("clear")) {
                return LINE_CLEAR;
            }
            return tape.isWord("use") ? LINE_USE : NONE;
        }

        private int passRegister() {
            return passKnown(unit.registerNamed(tape.word));
        }

        private int passForm() {
            return passKnown(unit.formNamed(tape.word));
        }

        private int passKnown(int place) {
            if (!tape.isRight() || !tape.isName()) {
                tape.blame(OUT_OF_PLACE);
            } else if (place == NONE) {
                tape.blame(UNKNOWN_NAME);
            } else {
                tape.advance();
            }
            return place;
        }
    }
}
