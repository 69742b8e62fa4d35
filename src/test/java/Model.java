import java.util.ArrayList;
import java.util.HashMap;
import java.util.List;
import java.util.Map;
import java.util.Random;

/** The document once more, written for plainness: trees, texts, exceptions; what is asked is worked out anew. */
final class Model {
    static final List<String> BASIC = List.of("void", "bool", "char", "int", "long", "float");
    static final String LETTERS = "vbcilf";

    static final class Fault extends RuntimeException {
        private static final long serialVersionUID = 1;
        final int kind;
        final int place;

        Fault(int kind, int place) {
            super(null, null, false, false);
            this.kind = kind;
            this.place = place;
        }
    }

    /** kind: P R K A F as spelled, b basic, p path, w path with arguments. */
    static final class Tree {
        final int id;
        final char kind;
        final Tree inner;
        final List<Tree> parts;
        final String word;
        final long text;
        final int height;

        Tree(int id, char kind, Tree inner, List<Tree> parts, String word) {
            this.id = id;
            this.kind = kind;
            this.inner = inner;
            this.parts = parts;
            this.word = word;
            long sum = inner == null ? 0 : inner.text;
            int deep = 0;
            for (Tree part : parts) {
                sum += part.text;
                deep = Math.max(deep, part.height);
            }
            sum += Math.max(0, parts.size() - 1);
            switch (kind) {
                case 'b' -> sum += word.length();
                case 'p' -> sum += word.length() + (inner == null ? 0 : 1);
                case 'w' -> sum += 2;
                case 'F' -> sum += 3;
                case 'A' -> sum += 2 + word.length();
                default -> sum += 1;
            }
            this.text = Math.min(sum, 1L << 40);
            if (isPath()) {
                this.height = Math.max(inner == null ? 1 : inner.height, deep + 1);
            } else {
                this.height = 1 + Math.max(inner == null ? 0 : inner.height, deep);
            }
        }

        boolean isPath() {
            return kind == 'p' || kind == 'w';
        }

        int names() {
            return (kind == 'p' ? 1 : 0) + (isPath() && inner != null ? inner.names() : 0);
        }

        String told() {
            return switch (kind) {
                case 'b' -> word;
                case 'p' -> inner == null ? word : inner.told() + "." + word;
                case 'w' -> inner.told() + "<" + list(parts) + ">";
                case 'F' -> "(" + list(parts) + "):" + inner.told();
                case 'A' -> "[" + word + "]" + inner.told();
                case 'P' -> "*" + inner.told();
                case 'R' -> "&" + inner.told();
                default -> "!" + inner.told();
            };
        }

        int basics() {
            int sum = kind == 'b' ? 1 : inner == null ? 0 : inner.basics();
            for (Tree part : parts) {
                sum += part.basics();
            }
            return sum;
        }

        int countOf(Tree path) {
            int sum = this == path ? 1 : 0;
            sum += inner == null ? 0 : inner.countOf(path);
            for (Tree part : parts) {
                sum += part.countOf(path);
            }
            return sum;
        }
    }

    static String list(List<Tree> parts) {
        StringBuilder out = new StringBuilder();
        for (int i = 0; i < parts.size(); i++) {
            out.append(i > 0 ? "," : "").append(parts.get(i).told());
        }
        return out.toString();
    }

    static final class Symbol {
        Tree path;
        List<Tree> params;

        String told() {
            return path.told() + (params == null ? "" : "(" + list(params) + ")");
        }

        long text() {
            long sum = path.text + (params == null ? 0 : 2 + Math.max(0, params.size() - 1));
            if (params != null) {
                for (Tree param : params) {
                    sum += param.text;
                }
            }
            return sum;
        }

        int height() {
            int most = path.height - 1;
            if (params != null) {
                for (Tree param : params) {
                    most = Math.max(most, param.height);
                }
            }
            return most;
        }
    }

    final Map<String, Tree> known = new HashMap<>();

    Tree tree(char kind, Tree inner, List<Tree> parts, String word) {
        StringBuilder key = new StringBuilder().append(kind).append(word).append('/').append(inner == null ? -1 : inner.id);
        for (Tree part : parts) {
            key.append(',').append(part.id);
        }
        return known.computeIfAbsent(key.toString(), k -> new Tree(known.size(), kind, inner, List.copyOf(parts), word));
    }

    static boolean barred(char kind, Tree of) {
        boolean isVoid = of.kind == 'b' && of.word.equals("void");
        return switch (kind) {
            case 'P' -> of.kind == 'R';
            case 'R' -> isVoid || of.kind == 'R';
            case 'K' -> isVoid || "KRAF".indexOf(of.kind) >= 0;
            case 'A' -> isVoid || "RF".indexOf(of.kind) >= 0;
            default -> false;
        };
    }

    /** A name that is spelled; with a random source, things that could be referred to are spelled again at times. */
    final class Spelling {
        final StringBuilder out = new StringBuilder("_Z");
        final List<Tree> table = new ArrayList<>();
        final List<Integer> start = new ArrayList<>();
        final Map<Integer, Integer> refs = new HashMap<>();
        private final Random waste;

        Spelling(Symbol symbol, Random waste) {
            this.waste = waste;
            path(symbol.path, true);
            if (symbol.params != null && symbol.params.isEmpty()) {
                out.append('v');
            }
            if (symbol.params != null) {
                symbol.params.forEach(this::type);
            }
        }

        private boolean known(Tree tree) {
            return table.contains(tree) && (waste == null || waste.nextInt(4) > 0);
        }

        private void number(Tree tree, int at) {
            if (!table.contains(tree)) {
                table.add(tree);
                start.add(at);
            }
        }

        private void refer(Tree tree) {
            int k = table.indexOf(tree);
            refs.put(out.length(), k);
            out.append('S').append(k == 0 ? "" : Integer.toString(k - 1, 36).toUpperCase()).append('_');
        }

        private void type(Tree tree) {
            int at = out.length();
            if (tree.kind == 'b') {
                out.append(LETTERS.charAt(BASIC.indexOf(tree.word)));
            } else if (known(tree)) {
                refer(tree);
            } else if (tree.isPath()) {
                path(tree, false);
            } else {
                out.append(tree.kind).append(tree.kind == 'A' ? tree.word + "_" : "");
                type(tree.inner);
                tree.parts.forEach(this::type);
                out.append(tree.kind == 'F' ? "E" : "");
                number(tree, at);
            }
        }

        private void path(Tree tree, boolean own) {
            out.append(tree.names() > 1 ? "N" : "");
            steps(tree, own, out.length());
            out.append(tree.names() > 1 ? "E" : "");
        }

        private void steps(Tree tree, boolean own, int at) {
            if (tree.inner != null) {
                if (known(tree.inner)) {
                    refer(tree.inner);
                } else {
                    steps(tree.inner, false, at);
                }
            }
            if (tree.kind == 'p') {
                out.append(tree.word.length()).append(tree.word);
            } else {
                out.append('I');
                tree.parts.forEach(this::type);
                out.append('E');
            }
            if (!own) {
                number(tree, at);
            }
        }
    }

    int plainLength(Symbol symbol) {
        int sum = 2 + plain(symbol.path) + (symbol.params != null && symbol.params.isEmpty() ? 1 : 0);
        if (symbol.params != null) {
            for (Tree param : symbol.params) {
                sum += plain(param);
            }
        }
        return sum;
    }

    private int plain(Tree tree) {
        return plainSteps(tree) + (tree.names() > 1 ? 2 : 0);
    }

    private int plainSteps(Tree tree) {
        int sum = tree.inner == null ? 0 : tree.isPath() ? plainSteps(tree.inner) : plain(tree.inner);
        for (Tree part : tree.parts) {
            sum += plain(part);
        }
        return sum + switch (tree.kind) {
            case 'p' -> String.valueOf(tree.word.length()).length() + tree.word.length();
            case 'A' -> 2 + tree.word.length();
            case 'F', 'w' -> 2;
            default -> 1;
        };
    }

    /** Reads a name: what is spelled again is a fault, if it is to be one. */
    final class NameReading {
        private final String s;
        private final boolean lenient;
        private int at = 0;
        final List<Tree> table = new ArrayList<>();
        final Symbol symbol = new Symbol();

        NameReading(String s, boolean lenient) {
            this.s = s;
            this.lenient = lenient;
            if (sign() != '_') {
                throw new Fault(1, at);
            }
            at++;
            if (sign() != 'Z') {
                throw new Fault(1, at);
            }
            at++;
            symbol.path = path(0, true);
            if (at < s.length()) {
                symbol.params = new ArrayList<>();
                if (sign() == 'v') {
                    at++;
                    if (at < s.length()) {
                        throw new Fault(1, at);
                    }
                }
                while (at < s.length()) {
                    symbol.params.add(member(1));
                }
            }
            if (symbol.text() > 2000) {
                throw new Fault(7, s.length());
            }
        }

        /** The next byte, 0xFFFF at the end. */
        private char sign() {
            return at < s.length() ? s.charAt(at) : 0xFFFF;
        }

        private Tree number(Tree tree, int place) {
            if (table.contains(tree)) {
                if (!lenient) {
                    throw new Fault(4, place);
                }
            } else {
                table.add(tree);
            }
            return tree;
        }

        private Tree member(int depth) {
            int first = at;
            Tree tree = type(depth, false);
            if (tree.kind == 'b' && tree.word.equals("void")) {
                throw new Fault(5, first);
            }
            return tree;
        }

        private Tree type(int depth, boolean result) {
            int first = at;
            char c = sign();
            if ("vbcilfPRKAFNS0123456789".indexOf(c) < 0) {
                throw new Fault(1, at);
            }
            if (depth == 13) {
                throw new Fault(6, at);
            }
            if (c == 'S') {
                return argued(refer(depth), first, depth, result);
            }
            if (c == 'N' || Character.isDigit(c)) {
                return path(depth, false);
            }
            at++;
            if (LETTERS.indexOf(c) >= 0) {
                return tree('b', null, List.of(), BASIC.get(LETTERS.indexOf(c)));
            }
            Tree made;
            if (c == 'F') {
                Tree answer = type(depth + 1, true);
                List<Tree> params = new ArrayList<>();
                while (sign() != 'E') {
                    params.add(member(depth + 1));
                }
                at++;
                made = tree('F', answer, params, "");
            } else {
                String n = c == 'A' ? length() : "";
                Tree inner = type(depth + 1, false);
                if (barred(c, inner)) {
                    throw new Fault(5, first);
                }
                made = tree(c, inner, List.of(), n);
            }
            if (result && (c == 'A' || c == 'F')) {
                throw new Fault(5, first);
            }
            return number(made, first);
        }

        private String length() {
            int first = at;
            while (Character.isDigit(sign())) {
                at++;
            }
            if (first == at) {
                throw new Fault(1, at);
            }
            String n = s.substring(first, at);
            if (n.startsWith("0") || n.length() > 10 || Long.parseLong(n) > Integer.MAX_VALUE) {
                throw new Fault(2, first);
            }
            if (sign() != '_') {
                throw new Fault(1, at);
            }
            at++;
            return n;
        }

        private Tree refer(int depth) {
            int first = at;
            at++;
            while (Character.isDigit(sign()) || sign() >= 'A' && sign() <= 'Z') {
                at++;
            }
            if (sign() != '_') {
                throw new Fault(1, at);
            }
            String n = s.substring(first + 1, at);
            at++;
            if (n.length() > 1 && n.startsWith("0") || n.length() > 4
                || n.length() > 0 && Integer.parseInt(n, 36) > 99999) {
                throw new Fault(2, first + 1);
            }
            int k = n.isEmpty() ? 0 : Integer.parseInt(n, 36) + 1;
            if (k >= table.size()) {
                throw new Fault(3, first);
            }
            if (depth - 1 + table.get(k).height >= 13) {
                throw new Fault(6, first);
            }
            return table.get(k);
        }

        private Tree argued(Tree tree, int first, int depth, boolean result) {
            if (result && (tree.kind == 'A' || tree.kind == 'F')) {
                throw new Fault(5, first);
            }
            if (sign() != 'I') {
                return tree;
            }
            if (tree.kind != 'p') {
                throw new Fault(5, first);
            }
            if (tree.names() > 1) {
                throw new Fault(1, at);
            }
            return number(arguments(tree, depth), first);
        }

        private Tree arguments(Tree path, int depth) {
            at++;
            List<Tree> parts = new ArrayList<>();
            do {
                parts.add(member(depth + 1));
            } while (sign() != 'E');
            at++;
            return tree('w', path, parts, "");
        }

        private Tree named(Tree outer) {
            int first = at;
            while (Character.isDigit(sign())) {
                at++;
            }
            String n = s.substring(first, at);
            if (n.startsWith("0") || n.length() > 2 || Integer.parseInt(n) > 20 || Integer.parseInt(n) > s.length() - at) {
                throw new Fault(2, first);
            }
            int from = at;
            int letters = Integer.parseInt(n);
            for (; at < from + letters; at++) {
                if (sign() < 'a' || sign() > 'z') {
                    throw new Fault(1, at);
                }
            }
            String word = s.substring(from, at);
            if (BASIC.contains(word)) {
                throw new Fault(5, first);
            }
            return tree('p', outer, List.of(), word);
        }

        private Tree path(int depth, boolean own) {
            int first = at;
            char c = sign();
            if (c == 'S') {
                refer(depth);
                throw new AssertionError("the table is empty");
            }
            if (Character.isDigit(c)) {
                Tree path = named(null);
                boolean with = sign() == 'I';
                if (!own || with) {
                    number(path, first);
                }
                if (with) {
                    path = arguments(path, depth);
                    if (!own) {
                        number(path, first);
                    }
                }
                return path;
            }
            if (c != 'N') {
                throw new Fault(1, at);
            }
            at++;
            return between(depth, own, at);
        }

        private Tree between(int depth, boolean own, int first) {
            Tree path = null;
            int steps = 0;
            if (sign() == 'S') {
                path = refer(depth);
                boolean digit = Character.isDigit(sign());
                if (digit && !path.isPath() || sign() == 'I' && path.kind != 'p') {
                    throw new Fault(5, first);
                }
            }
            while (true) {
                char c = sign();
                if (Character.isDigit(c)) {
                    path = named(path);
                } else if (c == 'I' && path != null && path.kind == 'p') {
                    path = arguments(path, depth);
                } else if (c == 'E' && steps > 0 && path.names() > 1) {
                    at++;
                    return path;
                } else {
                    throw new Fault(1, at);
                }
                steps++;
                if (!own || sign() != 'E') {
                    number(path, first);
                }
            }
        }
    }

    /** Reads a text, as tokens: words, numbers, signs. */
    final class TextReading {
        private final List<String> tokens = new ArrayList<>();
        private final List<Integer> places = new ArrayList<>();
        private int next = 0;
        final Symbol symbol = new Symbol();

        TextReading(String s) {
            split(s);
            symbol.path = path(0);
            if (token().equals("(")) {
                next++;
                symbol.params = members(1, ")", true);
            }
            if (!token().isEmpty()) {
                throw new Fault(1, place());
            }
            if (symbol.text() > 2000) {
                throw new Fault(7, s.length());
            }
        }

        private void split(String s) {
            int at = 0;
            while (at < s.length()) {
                int from = at;
                while (at < s.length() && s.charAt(at) >= 'a' && s.charAt(at) <= 'z') {
                    at++;
                }
                while (from == at && at < s.length() && Character.isDigit(s.charAt(at)) || at > from && at < s.length()
                    && Character.isDigit(s.charAt(from)) && Character.isDigit(s.charAt(at))) {
                    at++;
                }
                at = Math.max(at, from + 1);
                if (s.charAt(from) != ' ') {
                    tokens.add(s.substring(from, at));
                    places.add(from);
                }
            }
            tokens.add("");
            places.add(s.length());
        }

        private String token() {
            return tokens.get(next);
        }

        private int place() {
            return places.get(next);
        }

        private boolean isWord() {
            return !token().isEmpty() && token().charAt(0) >= 'a' && token().charAt(0) <= 'z';
        }

        private List<Tree> members(int depth, String closing, boolean none) {
            List<Tree> members = new ArrayList<>();
            if (none && token().equals(closing)) {
                next++;
                return members;
            }
            while (true) {
                int first = place();
                Tree member = type(depth, false);
                if (member.kind == 'b' && member.word.equals("void")) {
                    throw new Fault(5, first);
                }
                members.add(member);
                String sign = token();
                if (!sign.equals(",") && !sign.equals(closing)) {
                    throw new Fault(1, place());
                }
                next++;
                if (sign.equals(closing)) {
                    return members;
                }
            }
        }

        private Tree path(int depth) {
            Tree path = null;
            while (true) {
                if (!isWord() || BASIC.contains(token())) {
                    throw new Fault(1, place());
                }
                if (token().length() > 20) {
                    throw new Fault(2, place());
                }
                path = tree('p', path, List.of(), token());
                next++;
                if (token().equals("<")) {
                    next++;
                    path = tree('w', path, members(depth + 1, ">", false), "");
                }
                if (!token().equals(".")) {
                    return path;
                }
                next++;
            }
        }

        private Tree type(int depth, boolean result) {
            int first = place();
            String sign = token();
            if (!isWord() && (sign.isEmpty() || "*&![(".indexOf(sign) < 0)) {
                throw new Fault(1, first);
            }
            if (depth == 13) {
                throw new Fault(6, first);
            }
            if (BASIC.contains(sign)) {
                next++;
                return tree('b', null, List.of(), sign);
            }
            if (isWord()) {
                return path(depth);
            }
            next++;
            if (sign.equals("(")) {
                List<Tree> params = members(depth + 1, ")", true);
                take(":");
                Tree made = tree('F', type(depth + 1, true), params, "");
                if (result) {
                    throw new Fault(5, first);
                }
                return made;
            }
            String n = sign.equals("[") ? length() : "";
            char kind = "PRKA".charAt("*&![".indexOf(sign));
            Tree inner = type(depth + 1, false);
            if (barred(kind, inner) || result && kind == 'A') {
                throw new Fault(5, first);
            }
            return tree(kind, inner, List.of(), n);
        }

        private void take(String sign) {
            if (!token().equals(sign)) {
                throw new Fault(1, place());
            }
            next++;
        }

        private String length() {
            String n = token();
            if (n.isEmpty() || !Character.isDigit(n.charAt(0))) {
                throw new Fault(1, place());
            }
            if (n.startsWith("0") || n.length() > 10 || Long.parseLong(n) > Integer.MAX_VALUE) {
                throw new Fault(2, place());
            }
            next++;
            take("]");
            return n;
        }
    }
}
