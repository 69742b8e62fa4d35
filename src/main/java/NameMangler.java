import java.util.Arrays;
import java.util.NoSuchElementException;

/** Symbols of a linker: told as texts, spelled as mangled names, read back and compared. */
public final class NameMangler {
    public static final int NONE = -1;

    private static final int TAPE_LIMIT = 400;
    private static final int FED_AT_ONCE = 20;
    private static final int SYMBOL_LIMIT = 16;
    private static final int UNDO_LIMIT = 8;
    private static final int TEXT_LIMIT = 2000;
    private static final int DEPTH_LIMIT = 12;
    private static final int LETTER_LIMIT = 20;
    private static final int ARRAY_LIMIT = 2147483647;
    private static final int REFERENCE_LIMIT = 99999;
    /** Counts go no further than this, so that no sum of a few of them leaves int. */
    private static final int MOST = 1000000;

    private static final int POINTER = 0;
    private static final int REFERENCE = 1;
    private static final int CONST = 2;
    private static final int ARRAY = 3;
    private static final int FUNCTION = 4;
    private static final int PATH = 5;
    private static final int WITH = 6;
    private static final int BASIC = 7;

    private static final int VOID = 0;
    private static final int BASICS = 6;
    private static final String BASIC_LETTERS = "vbcilf";
    private static final String MODIFIER_LETTERS = "PRK";
    private static final String MODIFIER_SIGNS = "*&!";

    /** What a type is for: anything, an argument or parameter, a result. */
    private static final int ANY = 0;
    private static final int MEMBER = 1;
    private static final int RESULT = 2;

    private static final int CANNOT_STAND = 1;
    private static final int NO_SUCH_NUMBER = 2;
    private static final int NOT_THERE = 3;
    private static final int SPELLED_AGAIN = 4;
    private static final int NOT_ALLOWED = 5;
    private static final int TOO_DEEP = 6;
    private static final int TOO_LONG = 7;
    private static final int FAULT_SHIFT = 10;

    private final Bytes tape = new Bytes();
    /** The present state, the eight behind it, and one that is being made. */
    private final State[] ring = new State[UNDO_LIMIT + 2];
    private int present = 0;
    private int steps = 0;
    private int place = NONE;
    private final int[] refused = new int[3];

    private final Store store = new Store();
    private final Symbol first = new Symbol(store);
    private final Symbol second = new Symbol(store);
    private final NameReader names = new NameReader(store);
    private final TextReader texts = new TextReader(store);
    private final NameWriter speller = new NameWriter(store);
    private final TextWriter teller = new TextWriter(store);
    private final Bytes spelled = new Bytes();
    private final Bytes respelled = new Bytes();
    private final Bytes text = new Bytes();
    private final Ints renamed = new Ints();
    /** The symbol that stands in "first" just now, so that asking on reads it once. */
    private int shown = NONE;

    public NameMangler() {
        for (int i = 0; i < ring.length; i++) {
            ring[i] = new State();
        }
    }

    public int feed(int a, int b, int c, int d, int e) {
        if (tape.size + FED_AT_ONCE > TAPE_LIMIT) {
            return NONE;
        }
        tape.addFour(a);
        tape.addFour(b);
        tape.addFour(c);
        tape.addFour(d);
        tape.addFour(e);
        return tape.size;
    }

    public int define(int n) throws IllegalArgumentException, IllegalStateException {
        needArgument(n >= 0 && n <= tape.size);
        startReading();
        texts.read(tape, n, first);
        return settle(texts);
    }

    public int link(int n) throws IllegalArgumentException, IllegalStateException {
        needArgument(n >= 0 && n <= tape.size);
        startReading();
        names.read(tape, n, first, false);
        return settle(names);
    }

    public int fault() {
        return place;
    }

    public int forget(int symbol) throws NoSuchElementException {
        needSymbol(symbol);
        State draft = draft();
        draft.drop(symbol);
        accept();
        return draft.count;
    }

    public int rename(int n) throws IllegalArgumentException, IllegalStateException {
        needArgument(n >= 0 && n <= tape.size);
        int blank = blankBetweenNames(n);
        needArgument(blank != NONE);
        State draft = draft();
        int others = reword(draft, blank, n);
        tape.clear();
        needRoom(others != NONE && draft.allUnlike());
        accept();
        return others;
    }

    public int undo() {
        if (steps <= 0) {
            return NONE;
        }
        steps--;
        present = (present + ring.length - 1) % ring.length;
        shown = NONE;
        return steps;
    }

    public int told(int what) throws IllegalArgumentException {
        needArgument(what >= 0 && what <= 2);
        if (what == 0) {
            return now().count;
        }
        return what == 1 ? tape.size : steps;
    }

    public int of(int symbol, int what) throws NoSuchElementException, IllegalArgumentException {
        needSymbol(symbol);
        needArgument(what >= 0 && what <= 7);
        show(symbol);
        int bytes = now().name(symbol).size;
        switch (what) {
            case 0: return bytes;
            case 1: return first.textLength();
            case 2: return first.table.held.size;
            case 3: return first.table.referredAt.size;
            case 4: return first.plainLength() - bytes;
            case 5: return first.listed ? first.members.size : NONE;
            case 6: return store.names.get(first.path);
            default: return first.height();
        }
    }

    public int nameAt(int symbol, int i) throws NoSuchElementException {
        needSymbol(symbol);
        Bytes name = now().name(symbol);
        needElement(i >= 0 && i < name.size);
        return name.get(i);
    }

    public int textAt(int symbol, int i) throws NoSuchElementException {
        needSymbol(symbol);
        show(symbol);
        needElement(i >= 0 && i < first.textLength());
        teller.tell(first, text);
        return text.get(i);
    }

    public int entry(int symbol, int k, int what) throws NoSuchElementException, IllegalArgumentException {
        needSymbol(symbol);
        show(symbol);
        needElement(k >= 0 && k < first.table.held.size);
        int node = first.table.held.get(k);
        needArgument(what >= 0 && what <= 4);
        switch (what) {
            case 0: return store.kind.get(node);
            case 1: return first.table.start.get(k);
            case 2: return store.text.get(node);
            case 3: return first.table.uses.get(k);
            default: return store.basics.get(node);
        }
    }

    public int entryAt(int symbol, int k, int i) throws NoSuchElementException {
        needSymbol(symbol);
        show(symbol);
        int node = first.table.held.get(k);
        needElement(node != NONE && i >= 0 && i < store.text.get(node));
        teller.tell(node, text);
        return text.get(i);
    }

    public int refers(int symbol, int i) throws NoSuchElementException {
        needSymbol(symbol);
        needElement(i >= 0 && i < now().name(symbol).size);
        show(symbol);
        return first.table.referredFrom(i);
    }

    public int check(int n) throws IllegalArgumentException {
        needArgument(n >= 0 && n <= tape.size);
        startReading();
        names.read(tape, n, first, false);
        endReading(names);
        return names.kind;
    }

    public int respell(int n) throws IllegalArgumentException {
        needArgument(n >= 0 && n <= tape.size);
        startReading();
        names.read(tape, n, first, true);
        endReading(names);
        if (names.kind != 0) {
            return names.kind - FAULT_SHIFT;
        }
        speller.spell(first, respelled);
        return respelled.size;
    }

    public int respelt(int i) throws NoSuchElementException {
        needElement(i >= 0 && i < respelled.size);
        return respelled.get(i);
    }

    public int alike(int symbol) throws NoSuchElementException {
        needSymbol(symbol);
        int found = 0;
        for (int other = 0; other < now().count; other++) {
            if (now().samePath(symbol, other)) {
                found++;
            }
        }
        return found;
    }

    public int apart(int a, int b) throws NoSuchElementException {
        needSymbol(a);
        needSymbol(b);
        return now().name(a).parting(now().name(b));
    }

    public int ranked(int k) throws NoSuchElementException {
        needSymbol(k);
        for (int symbol = 0; symbol < now().count; symbol++) {
            if (now().countAhead(symbol) == k) {
                return symbol;
            }
        }
        return NONE;
    }

    public int stands(int symbol, int in) throws NoSuchElementException {
        needSymbol(symbol);
        needSymbol(in);
        showBoth(symbol, in);
        return second.countOf(first.path);
    }

    public int shared(int a, int b) throws NoSuchElementException {
        needSymbol(a);
        needSymbol(b);
        showBoth(a, b);
        int found = 0;
        for (int k = 0; k < first.table.held.size; k++) {
            if (second.table.find(first.table.held.get(k)) != NONE) {
                found++;
            }
        }
        return found;
    }

    public long print() {
        long sum = 0;
        for (int symbol = 0; symbol < now().count; symbol++) {
            Bytes name = now().name(symbol);
            for (int i = 0; i < name.size; i++) {
                sum = 31 * sum + name.get(i);
            }
        }
        return sum;
    }

    public int status(int what) {
        return what >= 0 && what < refused.length ? refused[what] : NONE;
    }

    private void needElement(boolean there) {
        if (!there) {
            refused[0]++;
            throw new NoSuchElementException("no such symbol, place or number");
        }
    }

    private void needArgument(boolean good) {
        if (!good) {
            refused[1]++;
            throw new IllegalArgumentException("no such argument");
        }
    }

    private void needRoom(boolean room) {
        if (!room) {
            refused[2]++;
            throw new IllegalStateException("no room for this");
        }
    }

    private void needSymbol(int symbol) {
        needElement(symbol >= 0 && symbol < now().count);
    }

    private State now() {
        return ring[present];
    }

    private int nextPlace() {
        return (present + 1) % ring.length;
    }

    /** A copy of the present state that may be thrown away, so that a refusal changes nothing. */
    private State draft() {
        State draft = ring[nextPlace()];
        draft.take(now());
        return draft;
    }

    private void accept() {
        present = nextPlace();
        steps = Math.min(steps + 1, UNDO_LIMIT);
        shown = NONE;
    }

    private void startReading() {
        shown = NONE;
        store.clear();
    }

    private void endReading(Reader reader) {
        place = reader.place;
        tape.clear();
    }

    private int settle(Reader reader) {
        endReading(reader);
        if (reader.kind != 0) {
            return reader.kind - FAULT_SHIFT;
        }
        speller.spell(first, spelled);
        int found = now().find(spelled);
        if (found != NONE) {
            return found;
        }
        needRoom(now().count < SYMBOL_LIMIT);
        State draft = draft();
        draft.add(spelled, speller.pathEnd);
        accept();
        return draft.count - 1;
    }

    private void show(int symbol) {
        if (shown == symbol) {
            return;
        }
        startReading();
        Bytes name = now().name(symbol);
        names.read(name, name.size, first, false);
        shown = symbol;
    }

    /** Both in one store, so that what is told alike has the same number in it. */
    private void showBoth(int a, int b) {
        startReading();
        Bytes nameOfA = now().name(a);
        Bytes nameOfB = now().name(b);
        names.read(nameOfA, nameOfA.size, first, false);
        names.read(nameOfB, nameOfB.size, second, false);
    }

    private int blankBetweenNames(int n) {
        int blank = 0;
        while (blank < n && isLetter(tape.get(blank))) {
            blank++;
        }
        boolean two = blank < n && tape.get(blank) == ' '
            && isName(tape, 0, blank) && isName(tape, blank + 1, n - blank - 1);
        return two ? blank : NONE;
    }

    /** How many symbols of the draft are others now; NONE, if a text is too long. */
    private int reword(State draft, int blank, int n) {
        int others = 0;
        for (int symbol = 0; symbol < draft.count; symbol++) {
            Bytes name = now().name(symbol);
            startReading();
            names.read(name, name.size, first, false);
            int from = store.word(tape, 0, blank);
            int to = store.word(tape, blank + 1, n - blank - 1);
            store.reword(from, to, renamed);
            first.become(renamed);
            if (first.textLength() > TEXT_LIMIT) {
                return NONE;
            }
            speller.spell(first, spelled);
            if (!spelled.same(name)) {
                others++;
            }
            draft.put(symbol, spelled, speller.pathEnd);
        }
        return others;
    }

    private static boolean isLetter(int sign) {
        return sign >= 'a' && sign <= 'z';
    }

    private static boolean isDigit(int sign) {
        return sign >= '0' && sign <= '9';
    }

    private static boolean isName(Bytes source, int from, int length) {
        if (length < 1 || length > LETTER_LIMIT || basicAt(source, from, length) != NONE) {
            return false;
        }
        for (int i = 0; i < length; i++) {
            if (!isLetter(source.get(from + i))) {
                return false;
            }
        }
        return true;
    }

    private static String basicWord(int basic) {
        switch (basic) {
            case VOID: return "void";
            case 1: return "bool";
            case 2: return "char";
            case 3: return "int";
            case 4: return "long";
            default: return "float";
        }
    }

    private static int basicAt(Bytes source, int from, int length) {
        for (int basic = 0; basic < BASICS; basic++) {
            if (source.holds(from, length, basicWord(basic))) {
                return basic;
            }
        }
        return NONE;
    }

    private static int signAt(String signs, int i) {
        return i >= 0 && i < signs.length() ? signs.charAt(i) : NONE;
    }

    private static int digits(int n) {
        int count = 1;
        for (int rest = n / 10; rest > 0; rest /= 10) {
            count++;
        }
        return count;
    }

    /** A row of numbers that grows; what is beyond it reads as NONE. */
    private static final class Ints {
        int[] row = new int[16];
        int size = 0;

        int get(int i) {
            return i >= 0 && i < size ? row[i] : NONE;
        }

        void add(int number) {
            if (size >= row.length) {
                row = Arrays.copyOf(row, 2 * size);
            }
            row[size] = number;
            size++;
        }

        void put(int i, int number) {
            for (int k = size; k <= i; k++) {
                add(NONE);
            }
            if (i >= 0 && i < size) {
                row[i] = number;
            }
        }

        void cut(int length) {
            if (length >= 0 && length < size) {
                size = length;
            }
        }
    }

    /** A row of bytes that grows; what is beyond it reads as NONE. */
    private static final class Bytes {
        byte[] row = new byte[16];
        int size = 0;

        int get(int i) {
            return i >= 0 && i < size ? row[i] & 255 : NONE;
        }

        void clear() {
            size = 0;
        }

        void add(int sign) {
            if (size >= row.length) {
                row = Arrays.copyOf(row, 2 * size);
            }
            row[size] = (byte) sign;
            size++;
        }

        void addFour(int number) {
            add(number >>> 24);
            add(number >>> 16);
            add(number >>> 8);
            add(number);
        }

        void addText(String signs) {
            for (int i = 0; i < signs.length(); i++) {
                add(signs.charAt(i));
            }
        }

        void addPart(Bytes other, int from, int length) {
            for (int i = 0; i < length; i++) {
                add(other.get(from + i));
            }
        }

        void addNumber(int number) {
            for (int unit = 1000000000; unit > 0; unit /= 10) {
                if (number >= unit || unit == 1) {
                    add('0' + number / unit % 10);
                }
            }
        }

        void addBase36(int number) {
            for (int unit = 1679616; unit > 0; unit /= 36) {
                if (number >= unit || unit == 1) {
                    int digit = number / unit % 36;
                    add(digit < 10 ? '0' + digit : 'A' + digit - 10);
                }
            }
        }

        void take(Bytes other) {
            if (other.size > row.length) {
                row = Arrays.copyOf(row, 2 * other.size);
            }
            System.arraycopy(other.row, 0, row, 0, other.size);
            size = other.size;
        }

        boolean holds(int from, int length, String signs) {
            if (length != signs.length()) {
                return false;
            }
            for (int i = 0; i < length; i++) {
                if (get(from + i) != signs.charAt(i)) {
                    return false;
                }
            }
            return true;
        }

        boolean holds(int from, int length, Bytes other, int otherFrom) {
            for (int i = 0; i < length; i++) {
                if (get(from + i) != other.get(otherFrom + i)) {
                    return false;
                }
            }
            return true;
        }

        boolean same(Bytes other) {
            return size == other.size && holds(0, size, other, 0);
        }

        /** The first place at which the two are unlike, where one ends too; NONE, if they are one. */
        int parting(Bytes other) {
            int both = Math.min(size, other.size);
            for (int i = 0; i < both; i++) {
                if (get(i) != other.get(i)) {
                    return i;
                }
            }
            return size == other.size ? NONE : both;
        }

        boolean isAheadOf(Bytes other) {
            int at = parting(other);
            // beyond its end a row reads as NONE, which is below all bytes
            return at != NONE && get(at) < other.get(at);
        }
    }

    /** All types and paths of what is looked at: each once, behind all that is in it. */
    private static final class Store {
        final Ints kind = new Ints();
        /** What a pointer, .. is of; a result; the outer of a path. */
        final Ints inner = new Ints();
        /** The length of an array, the word of a path, which basic type. */
        final Ints value = new Ints();
        final Ints from = new Ints();
        final Ints count = new Ints();
        final Ints parts = new Ints();
        final Ints next = new Ints();
        final int[] heads = new int[64];
        final Ints text = new Ints();
        /** Bytes when nothing is referred to. */
        final Ints full = new Ints();
        final Ints height = new Ints();
        final Ints names = new Ints();
        final Ints basics = new Ints();
        final Ints tally = new Ints();
        /** Parts that have been read of what is still open. */
        final Ints open = new Ints();
        final Ints wordFrom = new Ints();
        final Ints wordLength = new Ints();
        final Bytes letters = new Bytes();

        void clear() {
            kind.cut(0);
            inner.cut(0);
            value.cut(0);
            from.cut(0);
            count.cut(0);
            parts.cut(0);
            next.cut(0);
            text.cut(0);
            full.cut(0);
            height.cut(0);
            names.cut(0);
            basics.cut(0);
            open.cut(0);
            wordFrom.cut(0);
            wordLength.cut(0);
            letters.clear();
            Arrays.fill(heads, 0);
        }

        int word(Bytes source, int start, int length) {
            for (int i = 0; i < wordLength.size; i++) {
                if (wordLength.get(i) == length && letters.holds(wordFrom.get(i), length, source, start)) {
                    return i;
                }
            }
            wordFrom.add(letters.size);
            wordLength.add(length);
            for (int i = 0; i < length; i++) {
                letters.add(source.get(start + i));
            }
            return wordLength.size - 1;
        }

        int basic(int which) {
            return node(BASIC, NONE, which, open.size);
        }

        /** The node of this kind; its parts are what is open from the mark on, which is closed. */
        int node(int ofKind, int ofInner, int ofValue, int mark) {
            int head = (ofKind * 7 + ofInner * 31 + ofValue * 17 + (open.size - mark) * 5) & (heads.length - 1);
            int node = heads[head] - 1;
            for (int seen = 0; seen < kind.size && node >= 0; seen++) {
                if (isThis(node, ofKind, ofInner, ofValue, mark)) {
                    open.cut(mark);
                    return node;
                }
                node = next.get(node);
            }
            int made = kind.size;
            kind.add(ofKind);
            inner.add(ofInner);
            value.add(ofValue);
            next.add(heads[head] - 1);
            heads[head] = made + 1;
            closeParts(mark);
            text.add(Math.min(MOST, ownText(made) + sumOf(text, made)));
            basics.add(Math.min(MOST, (ofKind == BASIC ? 1 : 0) + sumOf(basics, made)));
            names.add(ofKind == PATH ? 1 + Math.max(0, names.get(ofInner)) : ofKind == WITH ? names.get(ofInner) : 0);
            full.add(Math.min(MOST, ownSpelling(made) + sumOf(full, made)));
            height.add(heightOf(made));
            return made;
        }

        int part(int node, int i) {
            return i >= 0 && i < count.get(node) ? parts.get(from.get(node) + i) : NONE;
        }

        boolean isPath(int node) {
            return kind.get(node) == PATH || kind.get(node) == WITH;
        }

        boolean isBarred(int ofKind, int ofInner) {
            int what = kind.get(ofInner);
            boolean isVoid = what == BASIC && value.get(ofInner) == VOID;
            switch (ofKind) {
                case POINTER: return what == REFERENCE;
                case REFERENCE: return isVoid || what == REFERENCE;
                case CONST: return isVoid || what >= REFERENCE && what <= FUNCTION;
                case ARRAY: return isVoid || what == REFERENCE || what == FUNCTION;
                default: return false;
            }
        }

        boolean isBarredAs(int role, int node) {
            int what = kind.get(node);
            if (role == MEMBER) {
                return what == BASIC && value.get(node) == VOID;
            }
            return role == RESULT && (what == ARRAY || what == FUNCTION);
        }

        /** Of each node that which it is once one word is another. */
        void reword(int word, int other, Ints map) {
            int all = kind.size;
            map.cut(0);
            for (int node = 0; node < all; node++) {
                int mark = open.size;
                for (int i = 0; i < count.get(node); i++) {
                    open.add(map.get(part(node, i)));
                }
                boolean changes = kind.get(node) == PATH && value.get(node) == word;
                int worth = changes ? other : value.get(node);
                map.add(node(kind.get(node), map.get(inner.get(node)), worth, mark));
            }
        }

        /** How often a path stands in each node; all that is in a node is ahead of it. */
        void countEach(int path) {
            tally.cut(0);
            for (int node = 0; node < kind.size; node++) {
                int sum = (node == path ? 1 : 0) + Math.max(0, tally.get(inner.get(node)));
                for (int i = 0; i < count.get(node); i++) {
                    sum = Math.min(MOST, sum + Math.max(0, tally.get(part(node, i))));
                }
                tally.add(Math.min(MOST, sum));
            }
        }

        private boolean isThis(int node, int ofKind, int ofInner, int ofValue, int mark) {
            if (kind.get(node) != ofKind || inner.get(node) != ofInner || value.get(node) != ofValue
                || count.get(node) != open.size - mark) {
                return false;
            }
            for (int i = 0; i < count.get(node); i++) {
                if (parts.get(from.get(node) + i) != open.get(mark + i)) {
                    return false;
                }
            }
            return true;
        }

        private void closeParts(int mark) {
            from.add(parts.size);
            count.add(open.size - mark);
            for (int i = mark; i < open.size; i++) {
                parts.add(open.get(i));
            }
            open.cut(mark);
        }

        /** The sum of a row over all that a node is made of. */
        private int sumOf(Ints row, int node) {
            int sum = Math.max(0, row.get(inner.get(node)));
            for (int i = 0; i < count.get(node); i++) {
                sum = Math.min(MOST, sum + row.get(parts.get(from.get(node) + i)));
            }
            return sum;
        }

        private int heightOf(int node) {
            int parted = 0;
            for (int i = 0; i < count.get(node); i++) {
                parted = Math.max(parted, height.get(parts.get(from.get(node) + i)));
            }
            int within = Math.max(0, height.get(inner.get(node)));
            // a path is one type with all its outers
            boolean path = kind.get(node) == PATH || kind.get(node) == WITH;
            return path ? Math.max(within, 1 + parted) : 1 + Math.max(within, parted);
        }

        private int ownText(int node) {
            int worth = value.get(node);
            int commas = Math.max(0, count.get(node) - 1);
            switch (kind.get(node)) {
                case ARRAY: return 2 + digits(worth);
                case FUNCTION: return 3 + commas;
                case PATH: return wordLength.get(worth) + (inner.get(node) == NONE ? 0 : 1);
                case WITH: return 2 + commas;
                case BASIC: return basicWord(worth).length();
                default: return 1;
            }
        }

        private int ownSpelling(int node) {
            int worth = value.get(node);
            int letters = wordLength.get(worth);
            // "N" and "E" come with the second name, the further ones stand within them
            int between = names.get(node) == 2 ? 2 : 0;
            switch (kind.get(node)) {
                case ARRAY: return 2 + digits(worth);
                case PATH: return digits(letters) + letters + between;
                case FUNCTION: return 2;
                case WITH: return 2;
                default: return 1;
            }
        }
    }

    /** What has been spelled in one name, and where it is referred to. */
    private static final class Table {
        final Ints held = new Ints();
        final Ints start = new Ints();
        final Ints uses = new Ints();
        final Ints numberOf = new Ints();
        final Ints referredAt = new Ints();
        final Ints referredTo = new Ints();

        void clear() {
            held.cut(0);
            start.cut(0);
            uses.cut(0);
            numberOf.cut(0);
            referredAt.cut(0);
            referredTo.cut(0);
        }

        int find(int node) {
            return numberOf.get(node);
        }

        void add(int node, int at) {
            numberOf.put(node, held.size);
            held.add(node);
            start.add(at);
            uses.add(0);
        }

        void use(int number, int at) {
            uses.put(number, uses.get(number) + 1);
            referredAt.add(at);
            referredTo.add(number);
        }

        int referredFrom(int at) {
            for (int i = 0; i < referredAt.size; i++) {
                if (referredAt.get(i) == at) {
                    return referredTo.get(i);
                }
            }
            return NONE;
        }
    }

    /** A symbol as nodes of the store, with the table of the name from which it was read. */
    private static final class Symbol {
        final Store store;
        final Table table = new Table();
        final Ints members = new Ints();
        int path = NONE;
        boolean listed = false;

        Symbol(Store store) {
            this.store = store;
        }

        void clear() {
            table.clear();
            members.cut(0);
            path = NONE;
            listed = false;
        }

        void become(Ints map) {
            path = map.get(path);
            for (int i = 0; i < members.size; i++) {
                members.put(i, map.get(members.get(i)));
            }
        }

        int textLength() {
            int sum = store.text.get(path) + (listed ? 2 + Math.max(0, members.size - 1) : 0);
            for (int i = 0; i < members.size; i++) {
                sum = Math.min(MOST, sum + store.text.get(members.get(i)));
            }
            return sum;
        }

        int plainLength() {
            int sum = 2 + store.full.get(path) + (listed && members.size == 0 ? 1 : 0);
            for (int i = 0; i < members.size; i++) {
                sum = Math.min(MOST, sum + store.full.get(members.get(i)));
            }
            return sum;
        }

        int height() {
            // the path of a symbol is no type itself, its arguments are
            int most = store.height.get(path) - 1;
            for (int i = 0; i < members.size; i++) {
                most = Math.max(most, store.height.get(members.get(i)));
            }
            return most;
        }

        int countOf(int sought) {
            store.countEach(sought);
            int sum = store.tally.get(path);
            for (int i = 0; i < members.size; i++) {
                sum = Math.min(MOST, sum + store.tally.get(members.get(i)));
            }
            return sum;
        }
    }

    /** What reads bytes from the left and stops at the first fault. */
    private abstract static class Reader {
        final Store store;
        Bytes source = new Bytes();
        int length = 0;
        int at = 0;
        int kind = 0;
        int place = NONE;

        Reader(Store store) {
            this.store = store;
        }

        abstract int type(int depth, int role);

        void begin(Bytes bytes, int n) {
            source = bytes;
            length = n;
            at = 0;
            kind = 0;
            place = NONE;
        }

        int fail(int faultKind, int faultPlace) {
            kind = faultKind;
            place = faultPlace;
            return NONE;
        }

        int peek() {
            return at < length ? source.get(at) : NONE;
        }

        /** Another member of what is open; false behind a fault. */
        boolean addMember(int depth) {
            int member = type(depth, MEMBER);
            if (member == NONE) {
                return false;
            }
            store.open.add(member);
            return true;
        }

        void endSymbol(Symbol into, int path, int mark) {
            into.path = path;
            for (int i = mark; i < store.open.size; i++) {
                into.members.add(store.open.get(i));
            }
            store.open.cut(mark);
            if (into.textLength() > TEXT_LIMIT) {
                fail(TOO_LONG, length);
            }
        }

        /** All digits from here on as a number, which stays above all limits once it is there. */
        long number() {
            long number = 0;
            while (at < length && isDigit(peek())) {
                number = Math.min(number * 10 + peek() - '0', 1L + ARRAY_LIMIT);
                at++;
            }
            return number;
        }

        int arrayLength() {
            int first = at;
            if (!isDigit(peek())) {
                return fail(CANNOT_STAND, first);
            }
            long number = number();
            if (source.get(first) == '0' || number > ARRAY_LIMIT) {
                return fail(NO_SUCH_NUMBER, first);
            }
            return (int) number;
        }

        boolean passes(int sign) {
            if (peek() != sign) {
                fail(CANNOT_STAND, at);
                return false;
            }
            at++;
            return true;
        }
    }

    /** Reads mangled names; leniently, if what could be referred to may be spelled again. */
    private static final class NameReader extends Reader {
        private Table table = new Table();
        private boolean lenient = false;

        NameReader(Store store) {
            super(store);
        }

        void read(Bytes bytes, int n, Symbol into, boolean again) {
            begin(bytes, n);
            into.clear();
            table = into.table;
            lenient = again;
            if (!passes('_') || !passes('Z')) {
                return;
            }
            int path = path(0, true);
            if (path == NONE) {
                return;
            }
            int mark = store.open.size;
            into.listed = at < length;
            boolean none = peek() == 'v';
            if (none) {
                at++;
            }
            if (none && at < length) {
                fail(CANNOT_STAND, at);
            } else if (addMembers(1, NONE)) {
                endSymbol(into, path, mark);
            }
        }

        @Override
        int type(int depth, int role) {
            int first = at;
            int sign = peek();
            if (!beginsType(sign)) {
                return fail(CANNOT_STAND, first);
            }
            if (depth > DEPTH_LIMIT) {
                return fail(TOO_DEEP, first);
            }
            if (sign == 'S') {
                return referredType(depth, role);
            }
            if (sign == 'N' || isDigit(sign)) {
                return path(depth, false);
            }
            at++;
            int basic = BASIC_LETTERS.indexOf((char) sign);
            if (basic >= 0) {
                return allowed(store.basic(basic), first, role);
            }
            int node = sign == 'F' ? function(depth) : derived(sign, depth, first);
            if (node == NONE || allowed(node, first, role) == NONE) {
                return NONE;
            }
            return numbered(node, first);
        }

        private static boolean beginsType(int sign) {
            return isDigit(sign) || sign == 'N' || sign == 'S' || sign == 'A' || sign == 'F'
                || sign != NONE && BASIC_LETTERS.indexOf((char) sign) >= 0
                || sign != NONE && MODIFIER_LETTERS.indexOf((char) sign) >= 0;
        }

        /** The path of a symbol is its own: it is not numbered. */
        private int path(int depth, boolean own) {
            int sign = peek();
            if (sign == 'N') {
                return nested(depth, own);
            }
            if (sign == 'S') {
                return reference(depth);
            }
            return isDigit(sign) ? alone(depth, own) : fail(CANNOT_STAND, at);
        }

        /** All members up to what closes them; false behind a fault. */
        private boolean addMembers(int depth, int closing) {
            for (int rounds = 0; rounds < length && peek() != closing; rounds++) {
                if (!addMember(depth)) {
                    return false;
                }
            }
            return true;
        }

        private int allowed(int node, int first, int role) {
            return store.isBarredAs(role, node) ? fail(NOT_ALLOWED, first) : node;
        }

        private int numbered(int node, int first) {
            if (table.find(node) == NONE) {
                table.add(node, first);
                return node;
            }
            return lenient ? node : fail(SPELLED_AGAIN, first);
        }

        private int derived(int sign, int depth, int first) {
            int kindOf = sign == 'A' ? ARRAY : MODIFIER_LETTERS.indexOf((char) sign);
            int worth = NONE;
            if (kindOf == ARRAY) {
                worth = arrayLength();
                if (worth == NONE || !passes('_')) {
                    return NONE;
                }
            }
            int inner = type(depth + 1, ANY);
            if (inner == NONE) {
                return NONE;
            }
            if (store.isBarred(kindOf, inner)) {
                return fail(NOT_ALLOWED, first);
            }
            return store.node(kindOf, inner, worth, store.open.size);
        }

        private int function(int depth) {
            int result = type(depth + 1, RESULT);
            if (result == NONE) {
                return NONE;
            }
            int mark = store.open.size;
            if (!addMembers(depth + 1, 'E')) {
                return NONE;
            }
            at++;
            return store.node(FUNCTION, result, NONE, mark);
        }

        private int referredType(int depth, int role) {
            int first = at;
            int node = reference(depth);
            if (node == NONE || allowed(node, first, role) == NONE) {
                return NONE;
            }
            if (peek() != 'I') {
                return node;
            }
            if (store.kind.get(node) != PATH) {
                return fail(NOT_ALLOWED, first);
            }
            if (store.names.get(node) > 1) {
                return fail(CANNOT_STAND, at);
            }
            int path = arguments(node, depth);
            return path == NONE ? NONE : numbered(path, first);
        }

        private int reference(int depth) {
            int first = at;
            at++;
            int digits = at;
            int value = 0;
            while (at < length && digit36(peek()) != NONE) {
                value = Math.min(value * 36 + digit36(peek()), MOST);
                at++;
            }
            int count = at - digits;
            if (!passes('_')) {
                return NONE;
            }
            if (count > 1 && source.get(digits) == '0' || value > REFERENCE_LIMIT) {
                return fail(NO_SUCH_NUMBER, digits);
            }
            int number = count == 0 ? 0 : value + 1;
            if (number >= table.held.size) {
                return fail(NOT_THERE, first);
            }
            int node = table.held.get(number);
            if (depth + store.height.get(node) - 1 > DEPTH_LIMIT) {
                return fail(TOO_DEEP, first);
            }
            table.use(number, first);
            return node;
        }

        private static int digit36(int sign) {
            if (isDigit(sign)) {
                return sign - '0';
            }
            return sign >= 'A' && sign <= 'Z' ? sign - 'A' + 10 : NONE;
        }

        /** A path of one name. */
        private int alone(int depth, boolean own) {
            int first = at;
            int path = named(NONE);
            if (path != NONE && peek() == 'I') {
                int outer = numbered(path, first);
                path = outer == NONE ? NONE : arguments(outer, depth);
            }
            return path == NONE || own ? path : numbered(path, first);
        }

        private int nested(int depth, boolean own) {
            at++;
            int first = at;
            int path = NONE;
            if (peek() == 'S') {
                path = reference(depth);
                if (path == NONE) {
                    return NONE;
                }
                if (!mayGoOn(path)) {
                    return fail(NOT_ALLOWED, first);
                }
            }
            int begun = at;
            for (int rounds = 0; rounds < length && peek() != 'E'; rounds++) {
                path = longer(path, depth);
                if (path != NONE && !(own && peek() == 'E')) {
                    path = numbered(path, first);
                }
                if (path == NONE) {
                    return NONE;
                }
            }
            if (at == begun || store.names.get(path) < 2) {
                return fail(CANNOT_STAND, at);
            }
            at++;
            return path;
        }

        /** Whether what is referred to may stand ahead of the byte behind it. */
        private boolean mayGoOn(int node) {
            if (peek() == 'I') {
                return store.kind.get(node) == PATH;
            }
            return !isDigit(peek()) || store.isPath(node);
        }

        /** The path by one name more, or with arguments. */
        private int longer(int path, int depth) {
            if (isDigit(peek())) {
                return named(path);
            }
            boolean open = peek() == 'I' && store.kind.get(path) == PATH;
            return open ? arguments(path, depth) : fail(CANNOT_STAND, at);
        }

        private int named(int outer) {
            int first = at;
            long letters = number();
            if (source.get(first) == '0' || letters > LETTER_LIMIT || letters > length - at) {
                return fail(NO_SUCH_NUMBER, first);
            }
            int from = at;
            while (at < from + letters && isLetter(peek())) {
                at++;
            }
            if (at < from + letters) {
                return fail(CANNOT_STAND, at);
            }
            if (basicAt(source, from, at - from) != NONE) {
                return fail(NOT_ALLOWED, first);
            }
            return store.node(PATH, outer, store.word(source, from, at - from), store.open.size);
        }

        private int arguments(int path, int depth) {
            at++;
            int mark = store.open.size;
            if (!addMember(depth + 1) || !addMembers(depth + 1, 'E')) {
                return NONE;
            }
            at++;
            return store.node(WITH, path, NONE, mark);
        }
    }

    /** Reads texts of symbols; blanks may stand ahead of all that is read. */
    private static final class TextReader extends Reader {
        TextReader(Store store) {
            super(store);
        }

        void read(Bytes bytes, int n, Symbol into) {
            begin(bytes, n);
            into.clear();
            int path = path(0);
            if (path == NONE) {
                return;
            }
            int mark = store.open.size;
            into.listed = next() == '(';
            if (into.listed) {
                at++;
                if (!readMembers(1)) {
                    return;
                }
            }
            if (next() != NONE) {
                fail(CANNOT_STAND, at);
                return;
            }
            endSymbol(into, path, mark);
        }

        @Override
        int type(int depth, int role) {
            int sign = next();
            int first = at;
            if (!beginsType(sign)) {
                return fail(CANNOT_STAND, first);
            }
            if (depth > DEPTH_LIMIT) {
                return fail(TOO_DEEP, first);
            }
            int node = isLetter(sign) ? worded(depth) : sign == '(' ? function(depth) : derived(sign, depth);
            if (node == NONE) {
                return NONE;
            }
            return store.isBarredAs(role, node) ? fail(NOT_ALLOWED, first) : node;
        }

        private static boolean beginsType(int sign) {
            return isLetter(sign) || sign == '[' || sign == '('
                || sign != NONE && MODIFIER_SIGNS.indexOf((char) sign) >= 0;
        }

        private int next() {
            while (at < length && source.get(at) == ' ') {
                at++;
            }
            return peek();
        }

        private boolean passesNext(int sign) {
            next();
            return passes(sign);
        }

        private int wordEnd() {
            int end = at;
            while (end < length && isLetter(source.get(end))) {
                end++;
            }
            return end;
        }

        private int worded(int depth) {
            int end = wordEnd();
            int basic = basicAt(source, at, end - at);
            if (basic == NONE) {
                return path(depth);
            }
            at = end;
            return store.basic(basic);
        }

        private int path(int depth) {
            int path = NONE;
            for (int rounds = 0; rounds < length; rounds++) {
                path = named(path);
                if (path != NONE && next() == '<') {
                    path = arguments(path, depth);
                }
                if (path == NONE || next() != '.') {
                    return path;
                }
                at++;
            }
            return fail(CANNOT_STAND, at);
        }

        private int named(int outer) {
            boolean word = isLetter(next());
            int first = at;
            int end = wordEnd();
            if (!word || basicAt(source, first, end - first) != NONE) {
                return fail(CANNOT_STAND, first);
            }
            if (end - first > LETTER_LIMIT) {
                return fail(NO_SUCH_NUMBER, first);
            }
            at = end;
            return store.node(PATH, outer, store.word(source, first, end - first), store.open.size);
        }

        private int arguments(int path, int depth) {
            at++;
            int mark = store.open.size;
            return readList(depth + 1, '>') ? store.node(WITH, path, NONE, mark) : NONE;
        }

        private int derived(int sign, int depth) {
            int first = at;
            at++;
            int kindOf = sign == '[' ? ARRAY : MODIFIER_SIGNS.indexOf((char) sign);
            int worth = NONE;
            if (kindOf == ARRAY) {
                next();
                worth = arrayLength();
                if (worth == NONE || !passesNext(']')) {
                    return NONE;
                }
            }
            int inner = type(depth + 1, ANY);
            if (inner == NONE) {
                return NONE;
            }
            if (store.isBarred(kindOf, inner)) {
                return fail(NOT_ALLOWED, first);
            }
            return store.node(kindOf, inner, worth, store.open.size);
        }

        private int function(int depth) {
            at++;
            int mark = store.open.size;
            if (!readMembers(depth + 1) || !passesNext(':')) {
                return NONE;
            }
            int result = type(depth + 1, RESULT);
            return result == NONE ? NONE : store.node(FUNCTION, result, NONE, mark);
        }

        private boolean readMembers(int depth) {
            if (next() == ')') {
                at++;
                return true;
            }
            return readList(depth, ')');
        }

        private boolean readList(int depth, int closing) {
            for (int rounds = 0; rounds < length; rounds++) {
                if (!addMember(depth)) {
                    return false;
                }
                if (next() != ',') {
                    return passes(closing);
                }
                at++;
            }
            return addMember(depth);
        }
    }

    /** Spells names; what has been spelled is referred to. */
    private static final class NameWriter {
        private final Store store;
        private final Table table = new Table();
        private final Ints chain = new Ints();
        private Bytes out = new Bytes();
        int pathEnd = 0;

        NameWriter(Store store) {
            this.store = store;
        }

        void spell(Symbol symbol, Bytes into) {
            out = into;
            out.clear();
            table.clear();
            chain.cut(0);
            out.addText("_Z");
            path(symbol.path, 0, true);
            pathEnd = out.size;
            if (symbol.listed && symbol.members.size == 0) {
                out.add('v');
            }
            for (int i = 0; i < symbol.members.size; i++) {
                type(symbol.members.get(i), 1);
            }
        }

        private void type(int node, int depth) {
            int kind = store.kind.get(node);
            if (depth > DEPTH_LIMIT) {
                return;
            }
            if (kind == BASIC) {
                out.add(signAt(BASIC_LETTERS, store.value.get(node)));
            } else if (table.find(node) != NONE) {
                refer(table.find(node));
            } else if (store.isPath(node)) {
                path(node, depth, false);
            } else {
                derived(node, kind, depth);
                table.add(node, NONE);
            }
        }

        private void derived(int node, int kind, int depth) {
            if (kind == FUNCTION) {
                out.add('F');
            } else if (kind == ARRAY) {
                out.add('A');
                out.addNumber(store.value.get(node));
                out.add('_');
            } else {
                out.add(signAt(MODIFIER_LETTERS, kind));
            }
            type(store.inner.get(node), depth + 1);
            if (kind == FUNCTION) {
                parts(node, depth);
            }
        }

        private void parts(int node, int depth) {
            for (int i = 0; i < store.count.get(node); i++) {
                type(store.part(node, i), depth + 1);
            }
            out.add('E');
        }

        private void path(int node, int depth, boolean own) {
            boolean nested = store.names.get(node) > 1;
            int mark = chain.size;
            int up = node;
            for (int seen = 0; seen < store.kind.size && up != NONE && table.find(up) == NONE; seen++) {
                chain.add(up);
                up = store.inner.get(up);
            }
            if (nested) {
                out.add('N');
            }
            if (up != NONE) {
                refer(table.find(up));
            }
            for (int i = chain.size - 1; i >= mark; i--) {
                int step = chain.get(i);
                lengthen(step, depth);
                if (!own || i > mark) {
                    table.add(step, NONE);
                }
            }
            chain.cut(mark);
            if (nested) {
                out.add('E');
            }
        }

        private void lengthen(int step, int depth) {
            if (store.kind.get(step) == WITH) {
                out.add('I');
                parts(step, depth);
                return;
            }
            int word = store.value.get(step);
            out.addNumber(store.wordLength.get(word));
            out.addPart(store.letters, store.wordFrom.get(word), store.wordLength.get(word));
        }

        private void refer(int number) {
            out.add('S');
            if (number > 0) {
                out.addBase36(number - 1);
            }
            out.add('_');
        }
    }

    /** Tells symbols and types as texts without blanks. */
    private static final class TextWriter {
        private final Store store;
        private final Ints chain = new Ints();
        private Bytes out = new Bytes();

        TextWriter(Store store) {
            this.store = store;
        }

        void tell(Symbol symbol, Bytes into) {
            tell(symbol.path, into);
            if (!symbol.listed) {
                return;
            }
            out.add('(');
            for (int i = 0; i < symbol.members.size; i++) {
                separate(i);
                type(symbol.members.get(i), 1);
            }
            out.add(')');
        }

        void tell(int node, Bytes into) {
            out = into;
            out.clear();
            chain.cut(0);
            type(node, 0);
        }

        private void type(int node, int depth) {
            if (depth > DEPTH_LIMIT) {
                return;
            }
            int kind = store.kind.get(node);
            switch (kind) {
                case BASIC:
                    out.addText(basicWord(store.value.get(node)));
                    break;
                case PATH:
                case WITH:
                    path(node, depth);
                    break;
                case FUNCTION:
                    list(node, depth, '(', ')');
                    out.add(':');
                    type(store.inner.get(node), depth + 1);
                    break;
                case ARRAY:
                    out.add('[');
                    out.addNumber(store.value.get(node));
                    out.add(']');
                    type(store.inner.get(node), depth + 1);
                    break;
                default:
                    out.add(signAt(MODIFIER_SIGNS, kind));
                    type(store.inner.get(node), depth + 1);
                    break;
            }
        }

        private void path(int node, int depth) {
            int mark = chain.size;
            int up = node;
            for (int seen = 0; seen < store.kind.size && up != NONE; seen++) {
                chain.add(up);
                up = store.inner.get(up);
            }
            for (int i = chain.size - 1; i >= mark; i--) {
                lengthen(chain.get(i), depth);
            }
            chain.cut(mark);
        }

        private void lengthen(int step, int depth) {
            if (store.kind.get(step) == WITH) {
                list(step, depth, '<', '>');
                return;
            }
            if (store.inner.get(step) != NONE) {
                out.add('.');
            }
            int word = store.value.get(step);
            out.addPart(store.letters, store.wordFrom.get(word), store.wordLength.get(word));
        }

        private void list(int node, int depth, int opening, int closing) {
            out.add(opening);
            for (int i = 0; i < store.count.get(node); i++) {
                separate(i);
                type(store.part(node, i), depth + 1);
            }
            out.add(closing);
        }

        private void separate(int i) {
            if (i > 0) {
                out.add(',');
            }
        }
    }

    /** The names of all symbols, and where the path ends in each. */
    private static final class State {
        private final Bytes[] names = new Bytes[SYMBOL_LIMIT];
        private final int[] pathEnd = new int[SYMBOL_LIMIT];
        int count = 0;

        /** Rows are made as they are needed: most states hold few symbols. */
        Bytes name(int symbol) {
            if (symbol < 0 || symbol >= names.length) {
                return new Bytes();
            }
            if (names[symbol] == null) {
                names[symbol] = new Bytes();
            }
            return names[symbol];
        }

        void put(int symbol, Bytes name, int end) {
            if (symbol >= 0 && symbol < pathEnd.length) {
                name(symbol).take(name);
                pathEnd[symbol] = end;
            }
        }

        void add(Bytes name, int end) {
            if (count < names.length) {
                put(count, name, end);
                count++;
            }
        }

        void take(State other) {
            count = other.count;
            for (int i = 0; i < count; i++) {
                put(i, other.name(i), other.endOfPath(i));
            }
        }

        void drop(int symbol) {
            for (int i = symbol + 1; i < count; i++) {
                put(i - 1, name(i), endOfPath(i));
            }
            count--;
        }

        int find(Bytes name) {
            for (int i = 0; i < count; i++) {
                if (name(i).same(name)) {
                    return i;
                }
            }
            return NONE;
        }

        boolean allUnlike() {
            for (int i = 0; i < count; i++) {
                if (find(name(i)) != i) {
                    return false;
                }
            }
            return true;
        }

        /** Paths are spelled first, each from an empty table: alike are those that are spelled alike. */
        boolean samePath(int a, int b) {
            int end = endOfPath(a);
            return end == endOfPath(b) && name(a).holds(0, end, name(b), 0);
        }

        int countAhead(int symbol) {
            int ahead = 0;
            for (int i = 0; i < count; i++) {
                if (name(i).isAheadOf(name(symbol))) {
                    ahead++;
                }
            }
            return ahead;
        }

        private int endOfPath(int symbol) {
            return symbol >= 0 && symbol < pathEnd.length ? pathEnd[symbol] : 0;
        }
    }
}
