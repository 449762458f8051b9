/** The same numbers each time. */
final class Draws {
    private long state;

    Draws(long seed) {
        state = seed * 0x9E3779B97F4A7C15L + 1;
    }

    long next() {
        state ^= state << 13;
        state ^= state >>> 7;
        state ^= state << 17;
        return state * 0x2545F4914F6CDD1DL;
    }

    int below(int bound) {
        return (int) Math.floorMod(next() >>> 11, (long) bound);
    }

    /** BITS of a FORM, the edges often. */
    int bits(Oracle form) {
        int any = below(form.many());
        switch (below(8)) {
            case 0:
                return (any & form.signBit) | below(Math.min(4, form.signBit));
            case 1:
                return (any & form.signBit) | form.greatest - below(2);
            case 2:
                return (any & form.signBit) | Math.min(form.signBit - 1, form.greatest + below(4));
            case 3:
                return (any & form.signBit) | Math.max(0, Math.min(form.signBit - 1, (form.bias << form.f) + below(9) - 4));
            case 4:
                return (any & form.signBit) | (any & ~((1 << form.f) - 1) & (form.signBit - 1));
            default:
                return any;
        }
    }

    /** BITS whose exponent stands near the one of 1. */
    int near(Oracle form) {
        int exponent = Math.max(0, Math.min((1 << form.x) - 1, form.bias + below(9) - 4));
        return (below(2) == 0 ? 0 : form.signBit) | exponent << form.f | below(1 << form.f);
    }
}
