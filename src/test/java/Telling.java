/** Units told as texts. */
final class Telling {
    static final String SMALL = "form m plain exp 3 frac 2 ; form n flush exp 3 frac 2 ; form s sat exp 3 frac 2 ; "
            + "form w whole exp 2 frac 1 ; reg p ; reg q ; reg r ;";
    static final String LARGE = "form a plain exp 8 frac 18 ; form b flush exp 8 frac 18 ; form c sat exp 5 frac 10 ; "
            + "form d whole exp 7 frac 17 ; reg p ; reg q ; reg r ;";

    private Telling() {
    }

    static int feed(FusedUnit x, String text) {
        int signs = x.count(8);
        for (int i = 0; i < text.length(); i += 24) {
            signs = x.feed(eight(text, i), eight(text, i + 8), eight(text, i + 16));
        }
        return signs;
    }

    static long eight(String text, int from) {
        long bytes = 0;
        for (int i = from; i < from + 8; i++) {
            bytes = bytes << 8 | (i < text.length() ? text.charAt(i) & 255 : 0);
        }
        return bytes;
    }

    static int unit(FusedUnit x, String text) {
        feed(x, text);
        return x.unit();
    }

    static int plan(FusedUnit x, String text) {
        feed(x, text);
        return x.plan();
    }

    /** A new object with this UNIT. */
    static FusedUnit made(String text) {
        FusedUnit x = new FusedUnit();
        if (unit(x, text) != 0) {
            throw new IllegalArgumentException(text);
        }
        return x;
    }

    /** A new object with one FORM, some REGISTERS a, b, .. and a law. */
    static FusedUnit made(Oracle oracle, int registers, String law) {
        StringBuilder text = new StringBuilder(oracle.text("z"));
        for (int i = 0; i < registers; i++) {
            text.append("reg ").append((char) ('a' + i)).append(";");
        }
        if (!law.isEmpty()) {
            text.append("own ").append(law).append(";");
        }
        return made(text.toString());
    }

    static int fault(int kind, int place) {
        return kind + 16 * place;
    }
}
