import java.util.NoSuchElementException;

/** One object under test, fed by texts, and the count of answers that were not due. */
final class Desk {
    static final String MISSING = "NoSuchElementException";
    static final String ARGUMENT = "IllegalArgumentException";
    static final String STATE = "IllegalStateException";

    static int wrong = 0;

    final NameMangler it = new NameMangler();

    interface Call {
        long made();
    }

    static void due(String what, Object got, Object want) {
        if (!String.valueOf(got).equals(String.valueOf(want))) {
            wrong++;
            System.out.println(what + " answered " + got + ", due is " + want);
        }
    }

    /** What a call answers, or the plain name of the exception that it throws. */
    static String answer(Call call) {
        try {
            return String.valueOf(call.made());
        } catch (NoSuchElementException | IllegalArgumentException | IllegalStateException e) {
            return e.getClass().getSimpleName();
        }
    }

    static void end() {
        System.out.println(wrong == 0 ? "all answers are as due" : wrong + " answers were not due");
        System.exit(wrong == 0 ? 0 : 1);
    }

    /** Puts the signs on an empty tape, filled up with zero bytes. */
    int put(String signs) {
        for (int i = 0; i < signs.length() || i == 0; i += 20) {
            it.feed(four(signs, i), four(signs, i + 4), four(signs, i + 8), four(signs, i + 12), four(signs, i + 16));
        }
        return signs.length();
    }

    private static int four(String signs, int from) {
        int number = 0;
        for (int i = from; i < from + 4; i++) {
            number = number << 8 | (i < signs.length() ? signs.charAt(i) & 255 : 0);
        }
        return number;
    }

    int define(String text) {
        return it.define(put(text));
    }

    int link(String name) {
        return it.link(put(name));
    }

    int check(String name) {
        return it.check(put(name));
    }

    int respell(String name) {
        return it.respell(put(name));
    }

    int rename(String two) {
        return it.rename(put(two));
    }

    String name(int symbol) {
        StringBuilder out = new StringBuilder();
        for (int i = 0; i < it.of(symbol, 0); i++) {
            out.append((char) it.nameAt(symbol, i));
        }
        return out.toString();
    }

    String text(int symbol) {
        StringBuilder out = new StringBuilder();
        for (int i = 0; i < it.of(symbol, 1); i++) {
            out.append((char) it.textAt(symbol, i));
        }
        return out.toString();
    }

    String entryText(int symbol, int k) {
        StringBuilder out = new StringBuilder();
        for (int i = 0; i < it.entry(symbol, k, 2); i++) {
            out.append((char) it.entryAt(symbol, k, i));
        }
        return out.toString();
    }

    String respelt(int bytes) {
        StringBuilder out = new StringBuilder();
        for (int i = 0; i < bytes; i++) {
            out.append((char) it.respelt(i));
        }
        return out.toString();
    }
}
