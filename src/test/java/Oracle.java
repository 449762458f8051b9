import java.math.BigInteger;

/**
 * A FORM by the words of the document, all numbers held exactly as whole ones: what a number is, times 2 to the
 * power of SCALE.
 */
final class Oracle {
    interface Law {
        boolean says(boolean minus, boolean odd, boolean guard, boolean rest);
    }

    static final int SCALE = 1200;
    static final Law NO_LAW = (minus, odd, guard, rest) -> false;
    private static final String[] KINDS = {"plain", "flush", "sat", "whole"};

    final int kind;
    final int x;
    final int f;
    final int bias;
    final int signBit;
    final int greatest;
    final int inf;
    final int nan;
    final Law law;

    /** What came of the last SUM or rounding. */
    int bits;
    int flags;
    int side;
    boolean rounded;
    boolean guard;
    boolean rest;

    Oracle(int kind, int x, int f, Law law) {
        this.kind = kind;
        this.x = x;
        this.f = f;
        this.law = law;
        bias = (int) Math.pow(2, x - 1) - 1;
        signBit = (int) Math.pow(2, x + f);
        int topExponent = (int) Math.pow(2, x) - 1;
        int fractions = (int) Math.pow(2, f);
        if (kind == 3) {
            greatest = topExponent * fractions + fractions - 1;
            inf = -5;
            nan = -1;
        } else {
            greatest = (topExponent - 1) * fractions + fractions - 1;
            inf = topExponent * fractions;
            nan = inf + fractions / 2;
        }
    }

    Oracle(int kind, int x, int f) {
        this(kind, x, f, NO_LAW);
    }

    String text(String name) {
        return "form " + name + " " + KINDS[kind] + " exp " + x + " frac " + f + ";";
    }

    int many() {
        return 2 * signBit;
    }

    boolean minus(int b) {
        return b >= signBit;
    }

    int size(int b) {
        return b % signBit;
    }

    boolean isNan(int b) {
        return kind != 3 && size(b) > inf;
    }

    boolean isInf(int b) {
        return size(b) == inf;
    }

    boolean isFinite(int b) {
        return !isNan(b) && !isInf(b);
    }

    boolean isSubnormal(int b) {
        return size(b) > 0 && size(b) < 1 << f;
    }

    int turned(int b) {
        return isNan(b) ? b : minus(b) ? b - signBit : b + signBit;
    }

    int one() {
        return bias << f;
    }

    int top() {
        return kind == 3 ? greatest : inf;
    }

    int lastPlace(int b) {
        return Math.max(1, size(b) >> f) - bias - f;
    }

    /** Of what is finite. */
    BigInteger value(int b) {
        int exponent = size(b) / (1 << f);
        int fraction = size(b) % (1 << f);
        long weight = exponent == 0 ? fraction : fraction + (1L << f);
        BigInteger value = BigInteger.valueOf(weight).shiftLeft(lastPlace(b) + SCALE);
        return minus(b) ? value.negate() : value;
    }

    BigInteger addend(int b) {
        return kind == 1 && isSubnormal(b) ? BigInteger.ZERO : value(b);
    }

    boolean isNought(int b) {
        return size(b) == 0 || kind == 1 && isSubnormal(b);
    }

    private int told(int bits, int flags) {
        this.bits = bits;
        this.flags = flags;
        side = 0;
        rounded = false;
        guard = false;
        rest = false;
        return bits;
    }

    int sum(int a, int b, int c, int mode) {
        if (isNan(a) || isNan(b) || isNan(c)) {
            return told(nan, 0);
        }
        if (isInf(a) && isNought(b) || isInf(b) && isNought(a)) {
            return told(nan, 1);
        }
        boolean minus = minus(a) ^ minus(b);
        boolean infProduct = isInf(a) || isInf(b);
        if (infProduct && isInf(c) && minus != minus(c)) {
            return told(nan, 1);
        }
        if (infProduct) {
            return told(minus ? inf + signBit : inf, 0);
        }
        if (isInf(c)) {
            return told(c, 0);
        }
        BigInteger product = addend(a).multiply(addend(b)).shiftRight(SCALE);
        BigInteger exact = product.add(addend(c));
        if (exact.signum() != 0) {
            return round(exact, mode);
        }
        if (product.signum() == 0 && addend(c).signum() == 0 && minus == minus(c)) {
            return told(minus ? signBit : 0, 0);
        }
        return told(mode == 2 ? signBit : 0, 0);
    }

    int flags(int a, int b, int c, int mode) {
        sum(a, b, c, mode);
        return flags;
    }

    boolean goesUp(int mode, boolean minus, boolean odd, boolean guard, boolean rest) {
        boolean inexact = guard || rest;
        switch (mode) {
            case 0:
                return guard && (rest || odd);
            case 1:
                return false;
            case 2:
                return minus && inexact;
            case 3:
                return !minus && inexact;
            case 4:
                return guard;
            default:
                return inexact && law.says(minus, odd, guard, rest);
        }
    }

    static int highest(BigInteger size) {
        return size.bitLength() - 1 - SCALE;
    }

    int round(BigInteger exact, int mode) {
        boolean minus = exact.signum() < 0;
        BigInteger size = exact.abs();
        BigInteger leastNormal = BigInteger.ONE.shiftLeft(1 - bias + SCALE);
        boolean tiny = size.compareTo(leastNormal) < 0;
        int last = Math.max(highest(size) - f, 1 - bias - f);
        BigInteger unit = BigInteger.ONE.shiftLeft(last + SCALE);
        BigInteger kept = size.divide(unit);
        BigInteger left = size.mod(unit);
        BigInteger half = unit.shiftRight(1);
        boolean isGuard = left.compareTo(half) >= 0;
        boolean isRest = left.mod(half).signum() != 0;
        if (goesUp(mode, minus, kept.testBit(0), isGuard, isRest)) {
            kept = kept.add(BigInteger.ONE);
        }
        BigInteger value = kept.multiply(unit);
        int sign = minus ? signBit : 0;
        if (value.compareTo(value(greatest)) > 0) {
            boolean toInf = mode == 0 || mode == 4 || mode == 2 && minus || mode == 3 && !minus
                    || mode == 5 && law.says(minus, true, true, true);
            boolean isInf = toInf && (kind == 0 || kind == 1);
            told(sign + (isInf ? inf : greatest), 10);
            side = isInf != minus ? 1 : -1;
        } else if (kind == 1 && tiny) {
            told(sign, 12);
            side = minus ? 1 : -1;
        } else {
            told(sign + encode(value), isGuard || isRest ? tiny ? 12 : 8 : 0);
            side = value.compareTo(size) * (minus ? -1 : 1);
        }
        rounded = true;
        guard = isGuard;
        rest = isRest;
        return bits;
    }

    private int encode(BigInteger value) {
        if (value.signum() == 0) {
            return 0;
        }
        int exponent = highest(value) + bias;
        if (exponent < 1) {
            return value.shiftRight(1 - bias - f + SCALE).intValueExact();
        }
        int weight = value.shiftRight(highest(value) - f + SCALE).intValueExact();
        return (exponent << f) + weight - (1 << f);
    }

    boolean half(int a, int b, int c, int mode) {
        sum(a, b, c, mode);
        return rounded && guard && !rest;
    }

    /** What USE of another FORM makes of BITS; that one's fields hold what came of it. */
    int into(Oracle to, int b, int mode) {
        if (isNan(b)) {
            return to.kind == 3 ? to.told(0, 1) : to.told(to.nan, 0);
        }
        if (isInf(b)) {
            int sign = minus(b) ? to.signBit : 0;
            return to.kind == 3 ? to.told(sign + to.greatest, 1) : to.told(sign + to.inf, 0);
        }
        if (size(b) == 0) {
            return to.told(minus(b) ? to.signBit : 0, 0);
        }
        return to.round(value(b), mode);
    }

    int scaled(int b, int n, int mode) {
        if (isNan(b)) {
            return nan;
        }
        if (isInf(b) || size(b) == 0) {
            return b;
        }
        BigInteger value = value(b);
        return round(n >= 0 ? value.shiftLeft(n) : value.shiftRight(-n), mode);
    }

    int order(int a, int b) {
        if (isNan(a) || isNan(b)) {
            return 2;
        }
        return far(a).compareTo(far(b));
    }

    /** What is finite as it is, INF beyond all of it. */
    private BigInteger far(int b) {
        if (!isInf(b)) {
            return value(b);
        }
        BigInteger beyond = BigInteger.ONE.shiftLeft(3 * SCALE);
        return minus(b) ? beyond.negate() : beyond;
    }

    int next(int b) {
        if (isNan(b) || b == inf || kind == 3 && b == greatest) {
            return b;
        }
        if (kind != 3 && b == signBit + inf) {
            return signBit + greatest;
        }
        if (b == greatest) {
            return inf;
        }
        if (size(b) == 0) {
            return 1;
        }
        if (b == signBit + 1) {
            return signBit;
        }
        return minus(b) ? b - 1 : b + 1;
    }

    /** The int, or null where it is refused. */
    Integer whole(int b, int mode) {
        if (!isFinite(b)) {
            return null;
        }
        BigInteger size = value(b).abs();
        BigInteger kept = size.shiftRight(SCALE);
        BigInteger left = size.subtract(kept.shiftLeft(SCALE));
        BigInteger half = BigInteger.ONE.shiftLeft(SCALE - 1);
        boolean isGuard = left.compareTo(half) >= 0;
        boolean isRest = left.mod(half).signum() != 0;
        if (goesUp(mode, minus(b), kept.testBit(0), isGuard, isRest)) {
            kept = kept.add(BigInteger.ONE);
        }
        if (minus(b)) {
            kept = kept.negate();
        }
        return kept.bitLength() > 31 ? null : Integer.valueOf(kept.intValueExact());
    }

    int of(int n, int mode) {
        return n == 0 ? 0 : round(BigInteger.valueOf(n).shiftLeft(SCALE), mode);
    }
}
