import java.util.Random;

/** Any arguments in any state: a call throws what the document names for it, and nothing else. */
public final class ThrowsTest {
    private static final int[] EDGES = {0, 1, -1, 2, 3, 7, 8, 15, 16, 20, 399, 400, 401, Integer.MAX_VALUE, Integer.MIN_VALUE};
    private static final String BYTES = "_ZN1a1bIiEEPRKAFS_0v.<>(),:*&![]3 int\0";

    private final Random random;
    private final NameMangler it = new NameMangler();
    private final int[] counted = new int[3];

    private ThrowsTest(long seed) {
        random = new Random(seed);
    }

    public static void main(String[] args) {
        for (long seed = 0; seed < 300; seed++) {
            new ThrowsTest(seed).run();
        }
        Desk.end();
    }

    private void run() {
        for (int i = 0; i < 512; i++) {
            if (i % 3 == 0) {
                it.feed(four(), four(), four(), four(), four());
            }
            one(random.nextInt(25));
        }
        for (int what = 0; what < 3; what++) {
            Desk.due("status " + what, it.status(what), counted[what]);
        }
    }

    private int four() {
        if (random.nextInt(20) == 0) {
            return random.nextInt();
        }
        int number = 0;
        for (int i = 0; i < 4; i++) {
            number = number << 8 | BYTES.charAt(random.nextInt(BYTES.length()));
        }
        return number;
    }

    private int any() {
        int chance = random.nextInt(8);
        return chance == 0 ? random.nextInt() : chance < 3 ? EDGES[random.nextInt(EDGES.length)] : random.nextInt(6);
    }

    private int bytes() {
        return random.nextInt(3) == 0 ? any() : random.nextInt(it.told(1) + 1);
    }

    private void may(String what, String allowed, Desk.Call call) {
        String got;
        try {
            got = Desk.answer(call);
        } catch (RuntimeException e) {
            Desk.due(what, e.getClass().getName(), "none but " + allowed);
            return;
        }
        String[] names = {Desk.MISSING, Desk.ARGUMENT, Desk.STATE};
        for (int i = 0; i < names.length; i++) {
            if (got.equals(names[i])) {
                counted[i]++;
                Desk.due(what + " threw " + got + " as it may", allowed.contains(got), true);
            }
        }
    }

    private void one(int which) {
        int a = any();
        int b = any();
        int c = any();
        int n = bytes();
        String missing = Desk.MISSING;
        String both = Desk.MISSING + Desk.ARGUMENT;
        String state = Desk.ARGUMENT + Desk.STATE;
        switch (which) {
            case 0 -> may("feed", "", () -> it.feed(a, b, c, n, a));
            case 1, 24 -> may("define", state, () -> it.define(n));
            case 2 -> may("link", state, () -> it.link(n));
            case 3 -> may("fault", "", it::fault);
            case 4 -> may("forget", missing, () -> it.forget(a));
            case 5 -> may("rename", state, () -> it.rename(n));
            case 6 -> may("undo", "", it::undo);
            case 7 -> may("told", Desk.ARGUMENT, () -> it.told(a));
            case 8 -> may("of", both, () -> it.of(a, b));
            case 9 -> may("nameAt", missing, () -> it.nameAt(a, b));
            case 10 -> may("textAt", missing, () -> it.textAt(a, b));
            case 11 -> may("entry", both, () -> it.entry(a, b, c));
            case 12 -> may("entryAt", missing, () -> it.entryAt(a, b, c));
            case 13 -> may("refers", missing, () -> it.refers(a, b));
            case 14 -> may("check", Desk.ARGUMENT, () -> it.check(n));
            case 15 -> may("respell", Desk.ARGUMENT, () -> it.respell(n));
            case 16 -> may("respelt", missing, () -> it.respelt(a));
            case 17 -> may("alike", missing, () -> it.alike(a));
            case 18 -> may("apart", missing, () -> it.apart(a, b));
            case 19 -> may("ranked", missing, () -> it.ranked(a));
            case 20 -> may("stands", missing, () -> it.stands(a, b));
            case 21 -> may("shared", missing, () -> it.shared(a, b));
            case 22 -> may("print", "", it::print);
            default -> may("status", "", () -> it.status(a));
        }
    }
}
