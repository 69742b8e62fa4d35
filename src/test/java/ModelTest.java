import java.util.ArrayDeque;
import java.util.ArrayList;
import java.util.Deque;
import java.util.List;
import java.util.Random;

/** Random calls, each answer held against the model. */
public final class ModelTest {
    private static final String NAME_SIGNS = "_ZNSEIPRKAFvbcilf0123456789abxESI_";
    private static final String TEXT_SIGNS = "abint*&![](),:<>. 0123x?";

    private final Random random;
    private final Model model = new Model();
    private final Desk desk = new Desk();
    private List<Model.Symbol> symbols = new ArrayList<>();
    private final Deque<List<Model.Symbol>> past = new ArrayDeque<>();
    private final int[] refused = new int[3];
    private final int[] kinds = new int[8];
    private final StringBuilder log = new StringBuilder();

    private ModelTest(long seed) {
        random = new Random(seed);
    }

    public static void main(String[] args) {
        int rounds = args.length > 0 ? Integer.parseInt(args[0]) : 400;
        long first = args.length > 1 ? Long.parseLong(args[1]) : 0;
        int[] seen = new int[8];
        for (long seed = first; seed < first + rounds && Desk.wrong < 20; seed++) {
            ModelTest test = new ModelTest(seed);
            test.run();
            for (int kind = 0; kind < seen.length; kind++) {
                seen[kind] += test.kinds[kind];
            }
        }
        for (int kind = 0; kind < seen.length; kind++) {
            if (args.length > 0) {
                System.out.println("kind " + kind + ": " + seen[kind]);
            }
        }
        Desk.end();
    }

    private void due(String what, Object got, Object want) {
        if (!String.valueOf(got).equals(String.valueOf(want))) {
            System.out.println("behind " + log);
        }
        Desk.due(what, got, want);
    }

    private void run() {
        for (int step = 0; step < 30 && Desk.wrong < 20; step++) {
            switch (random.nextInt(9)) {
                case 0, 1, 2 -> defineOne(bent(text(), TEXT_SIGNS, 5));
                case 3 -> linkOne(bent(name(), NAME_SIGNS, 5));
                case 4, 5 -> readOne(bent(name(), NAME_SIGNS, 1));
                case 6 -> renameOne();
                case 7 -> takeBack();
                default -> forgetOne();
            }
            askOne();
        }
        askAll();
    }

    private String word() {
        String[] words = {"a", "b", "box", "item", "abcdefghijklmnopqrst"};
        return words[random.nextInt(random.nextInt(8) == 0 ? words.length : 3)];
    }

    private String text() {
        String text = path(2);
        int params = random.nextInt(6) - 1;
        if (params >= 0) {
            text += "(" + types(params, 3) + ")";
        }
        return random.nextInt(20) == 0 ? text() : text;
    }

    private String types(int n, int deep) {
        StringBuilder out = new StringBuilder();
        for (int i = 0; i < n; i++) {
            out.append(i > 0 ? "," : "").append(type(deep));
        }
        return out.toString();
    }

    private String path(int deep) {
        String path = word();
        if (deep > 0 && random.nextInt(4) == 0) {
            path += "<" + types(1 + random.nextInt(2), deep - 1) + ">";
        }
        return random.nextInt(3) == 0 ? path + "." + path(deep - 1) : path;
    }

    private String type(int deep) {
        int chance = random.nextInt(deep <= 0 ? 4 : 11);
        if (chance < 2) {
            return Model.BASIC.get(1 + random.nextInt(5));
        }
        return switch (chance) {
            case 2, 3, 4 -> path(deep);
            case 5, 6 -> "*" + type(deep - 1);
            case 7 -> "&" + type(deep - 1);
            case 8 -> "!" + type(deep - 1);
            case 9 -> "[" + (1 + random.nextInt(3)) + "]" + type(deep - 1);
            default -> "(" + types(random.nextInt(3), deep - 1) + "):" + type(deep - 1);
        };
    }

    /** A name, at times with things spelled again, made of a random text or of a deep tree. */
    private String name() {
        if (random.nextInt(3) == 0) {
            return switch (random.nextInt(3)) {
                case 0 -> tokens();
                case 1 -> grown();
                default -> brink();
            };
        }
        Model.Symbol symbol = null;
        for (int tries = 0; tries < 50 && symbol == null; tries++) {
            try {
                symbol = model.new TextReading(random.nextInt(6) == 0 ? deepText() : text()).symbol;
            } catch (Model.Fault fault) {
                symbol = null;
            }
        }
        if (symbol == null) {
            return "_Z1a";
        }
        Random waste = random.nextInt(3) == 0 ? random : null;
        String name = model.new Spelling(symbol, waste).out.toString();
        return name.length() > 380 ? "_Z1b" : name;
    }

    /** Pieces of names in no order. */
    private String tokens() {
        String[] tokens = {"P", "P", "P", "R", "K", "A3_", "F", "Fv", "E", "E", "N", "S_", "S0_", "S1_", "S2_", "NS_", "NS0_",
            "1a", "1b", "I", "i", "i", "v", "2ab", "S9_", "PPPP", "3int"};
        StringBuilder out = new StringBuilder(random.nextInt(3) == 0 ? "_ZN1a1bE" : "_Z1a");
        for (int i = random.nextInt(30); i > 0; i--) {
            out.append(tokens[random.nextInt(tokens.length)]);
        }
        return out.toString();
    }

    private static String reference(int number) {
        return "S" + (number == 0 ? "" : Integer.toString(number - 1, 36).toUpperCase()) + "_";
    }

    /** A name that is good at each step, grown by what may follow: deep and long ones come by themselves. */
    private String grown() {
        StringBuilder out = new StringBuilder("_Z1a");
        for (int k = 0; k < 60 && out.length() < 380; k++) {
            int held = model.new NameReading(out.toString(), false).table.size();
            String inner = held == 0 ? "i" : reference(held - 1 - random.nextInt(Math.min(held, 2)));
            String more = switch (random.nextInt(6)) {
                case 0 -> "P" + inner;
                case 1 -> "Fv" + inner + inner + "E";
                case 2 -> "Fv" + inner.repeat(5) + "E";
                case 3 -> "1" + (char) ('a' + k % 26) + "I" + inner + "E";
                case 4 -> "A" + (k + 1) + "_" + inner;
                default -> "N1" + (char) ('a' + k % 26) + "1bI" + inner + "EE";
            };
            if (random.nextInt(40) == 0) {
                return out + more;
            }
            try {
                model.new NameReading(out + more, false);
                out.append(more);
            } catch (Model.Fault fault) {
                if (random.nextInt(8) == 0) {
                    return out + more;
                }
            }
        }
        return out.toString();
    }

    /** A name of which a type opens just about as many as may be open at once, by ways that all count. */
    private String brink() {
        String[] openers = {"P", "P", "P", "A3_", "F", "Fi", "1cI", "N1d1eI", "S_I"};
        String[] ends = {"S", "S_", "S0_", "S1_", "S00_", "SZZZZ_", "S?", "NS_1fE", "NS", "i", "v", "1b", "0", "?", "E", ""};
        StringBuilder out = new StringBuilder(random.nextBoolean() ? "_Z1a1bPPi" : "_Z1a1bI1cE");
        for (int open = 10 + random.nextInt(4); open > 0; open--) {
            out.append(openers[random.nextInt(open % 4 == 0 ? openers.length : 3)]);
        }
        return out + ends[random.nextInt(ends.length)] + (random.nextBoolean() ? "E" : "");
    }

    private String deepText() {
        String type = "*".repeat(random.nextInt(8)) + type(4);
        return "a(" + type + ",*" + type + ",**" + type + ",b<" + type + ">,b<*" + type + ">)";
    }

    private String bent(String good, String signs, int chance) {
        StringBuilder out = new StringBuilder(good);
        for (int bends = random.nextInt(chance + 2) > 1 ? 0 : 1 + random.nextInt(2); bends > 0; bends--) {
            int at = random.nextInt(out.length() + 1);
            char sign = signs.charAt(random.nextInt(signs.length()));
            int way = random.nextInt(5);
            if (way == 0 || out.length() == 0) {
                out.insert(Math.min(at, out.length()), sign);
            } else if (way == 1) {
                out.deleteCharAt(at % out.length());
            } else if (way == 2) {
                out.setCharAt(at % out.length(), sign);
            } else if (way == 3) {
                int from = random.nextInt(out.length());
                out.insert(at, out.substring(from, Math.min(out.length(), from + 1 + random.nextInt(8))));
            } else {
                out.setLength(at);
            }
        }
        return out.length() > 400 ? out.substring(0, 400) : out.toString();
    }

    private String spelled(Model.Symbol symbol) {
        return model.new Spelling(symbol, null).out.toString();
    }

    private int find(String told) {
        for (int i = 0; i < symbols.size(); i++) {
            if (symbols.get(i).told().equals(told)) {
                return i;
            }
        }
        return -1;
    }

    private void keep(List<Model.Symbol> next) {
        past.addLast(symbols);
        if (past.size() > 8) {
            past.removeFirst();
        }
        symbols = next;
    }

    private void settle(String call, String got, Model.Symbol symbol, Model.Fault fault) {
        log.append(call).append('\n');
        kinds[fault == null ? 0 : fault.kind]++;
        String want;
        int place = -1;
        if (fault != null) {
            want = String.valueOf(fault.kind - 10);
            place = fault.place;
        } else if (find(symbol.told()) >= 0) {
            want = String.valueOf(find(symbol.told()));
        } else if (symbols.size() == 16) {
            want = Desk.STATE;
            refused[2]++;
        } else {
            want = String.valueOf(symbols.size());
            List<Model.Symbol> next = new ArrayList<>(symbols);
            next.add(symbol);
            keep(next);
        }
        due(call, got, want);
        due("fault of " + call, desk.it.fault(), place);
    }

    private void defineOne(String text) {
        Model.Symbol symbol = null;
        Model.Fault met = null;
        String cut = text.length() > 400 ? "a" : text;
        try {
            symbol = model.new TextReading(cut).symbol;
        } catch (Model.Fault fault) {
            met = fault;
        }
        settle("define " + cut, Desk.answer(() -> desk.define(cut)), symbol, met);
    }

    private void linkOne(String name) {
        Model.Symbol symbol = null;
        Model.Fault met = null;
        try {
            symbol = model.new NameReading(name, false).symbol;
        } catch (Model.Fault fault) {
            met = fault;
        }
        settle("link " + name, Desk.answer(() -> desk.link(name)), symbol, met);
    }

    private void readOne(String name) {
        int kind = 0;
        int place = -1;
        try {
            Model.Symbol read = model.new NameReading(name, false).symbol;
            due("a name without a fault is the one name: " + name, name, spelled(read));
        } catch (Model.Fault fault) {
            kind = fault.kind;
            place = fault.place;
        }
        kinds[kind]++;
        due("check " + name, desk.check(name) + " at " + desk.it.fault(), kind + " at " + place);
        String want;
        String again = "";
        try {
            again = spelled(model.new NameReading(name, true).symbol);
            want = again.length() + " at -1";
        } catch (Model.Fault fault) {
            want = fault.kind - 10 + " at " + fault.place;
        }
        int got = desk.respell(name);
        due("respell " + name, got + " at " + desk.it.fault(), want);
        if (got >= 0) {
            due("respelt " + name, desk.respelt(got), again);
        }
    }

    private void renameOne() {
        String from = word();
        String to = random.nextInt(3) == 0 ? "c" : word();
        log.append("rename ").append(from).append(' ').append(to).append('\n');
        List<Model.Symbol> next = new ArrayList<>();
        int others = 0;
        boolean refusal = false;
        for (Model.Symbol symbol : symbols) {
            String told = symbol.told();
            String other = told.replaceAll("\\b" + from + "\\b", to);
            refusal |= other.length() > 2000;
            others += other.equals(told) ? 0 : 1;
            Model.Symbol made = model.new TextReading(other.length() > 2000 ? "a" : other).symbol;
            for (Model.Symbol ahead : next) {
                refusal |= ahead.told().equals(other);
            }
            next.add(made);
        }
        String want = refusal ? Desk.STATE : String.valueOf(others);
        if (refusal) {
            refused[2]++;
        } else {
            keep(next);
        }
        due("rename " + from + " " + to, Desk.answer(() -> desk.rename(from + " " + to)), want);
    }

    private void takeBack() {
        log.append("undo\n");
        int want = past.isEmpty() ? -1 : past.size() - 1;
        if (!past.isEmpty()) {
            symbols = past.removeLast();
        }
        due("undo", desk.it.undo(), want);
    }

    private void forgetOne() {
        int symbol = random.nextInt(18) - 1;
        log.append("forget ").append(symbol).append('\n');
        String got = Desk.answer(() -> desk.it.forget(symbol));
        if (symbol < 0 || symbol >= symbols.size()) {
            refused[0]++;
            due("forget " + symbol, got, Desk.MISSING);
            return;
        }
        List<Model.Symbol> next = new ArrayList<>(symbols);
        next.remove(symbol);
        keep(next);
        due("forget " + symbol, got, symbols.size());
    }

    private void askOne() {
        due("symbols", desk.it.told(0), symbols.size());
        due("tape", desk.it.told(1), 0);
        due("steps", desk.it.told(2), past.size());
        for (int what = 0; what < 3; what++) {
            due("status " + what, desk.it.status(what), refused[what]);
        }
        long sum = 0;
        for (Model.Symbol symbol : symbols) {
            for (char sign : spelled(symbol).toCharArray()) {
                sum = 31 * sum + sign;
            }
        }
        due("print", desk.it.print(), sum);
    }

    private void askAll() {
        List<String> sorted = new ArrayList<>();
        for (int i = 0; i < symbols.size(); i++) {
            sorted.add(spelled(symbols.get(i)));
            askSymbol(i, symbols.get(i));
            for (int j = 0; j < symbols.size(); j++) {
                askTwo(i, j);
            }
        }
        List<String> names = new ArrayList<>(sorted);
        sorted.sort(null);
        for (int k = 0; k < sorted.size(); k++) {
            due("ranked " + k, desk.it.ranked(k), names.indexOf(sorted.get(k)));
        }
    }

    private void askSymbol(int i, Model.Symbol symbol) {
        Model.Spelling spelling = model.new Spelling(symbol, null);
        String name = spelling.out.toString();
        String told = symbol.told();
        due("name " + told, desk.name(i), name);
        due("text", desk.text(i), told);
        int[] of = {name.length(), told.length(), spelling.table.size(), spelling.refs.size(),
            model.plainLength(symbol) - name.length(), symbol.params == null ? -1 : symbol.params.size(),
            symbol.path.names(), symbol.height()};
        for (int what = 0; what < of.length; what++) {
            due("of " + what + " of " + told, desk.it.of(i, what), of[what]);
        }
        for (int at = 0; at < name.length(); at++) {
            due("refers " + at + " of " + name, desk.it.refers(i, at), spelling.refs.getOrDefault(at, -1));
        }
        for (int k = 0; k < spelling.table.size(); k++) {
            Model.Tree tree = spelling.table.get(k);
            int number = k;
            int uses = (int) spelling.refs.values().stream().filter(to -> to == number).count();
            int[] entry = {"PRKAFpw".indexOf(tree.kind), spelling.start.get(k), tree.told().length(), uses, tree.basics()};
            for (int what = 0; what < entry.length; what++) {
                due("entry " + k + " " + what + " of " + name, desk.it.entry(i, k, what), entry[what]);
            }
            due("entry text " + k + " of " + name, desk.entryText(i, k), tree.told());
        }
    }

    private void askTwo(int i, int j) {
        Model.Symbol a = symbols.get(i);
        Model.Symbol b = symbols.get(j);
        int count = b.path.countOf(a.path);
        if (b.params != null) {
            for (Model.Tree param : b.params) {
                count += param.countOf(a.path);
            }
        }
        due("stands " + a.told() + " in " + b.told(), desk.it.stands(i, j), count);
        List<Model.Tree> both = new ArrayList<>(model.new Spelling(a, null).table);
        both.retainAll(model.new Spelling(b, null).table);
        due("shared", desk.it.shared(i, j), both.size());
        String one = spelled(a);
        String other = spelled(b);
        int at = 0;
        while (at < one.length() && at < other.length() && one.charAt(at) == other.charAt(at)) {
            at++;
        }
        due("apart", desk.it.apart(i, j), one.equals(other) ? -1 : at);
        int alike = (int) symbols.stream().filter(symbol -> symbol.path == a.path).count();
        due("alike", desk.it.alike(i), alike);
    }
}
