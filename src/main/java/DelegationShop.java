import java.util.Arrays;

/** A workshop for a language of objects without classes; README.md tells how to use it. */
public final class DelegationShop {
    private static final int TAPE_MOST = 6000;
    private static final int METHODS_MOST = 40;
    private static final int NAMES_MOST = 100;
    private static final int SITES_MOST = 150;
    private static final int LITERALS_MOST = 60;
    private static final int ARGUMENTS_MOST = 4;
    private static final int WORDS_MOST = 12;
    private static final int OPEN_MOST = 20;
    private static final int OBJECTS_MOST = 200;
    private static final int SHAPES_MOST = 400;
    private static final int ITEMS_MOST = 12;
    private static final int BLOCKS_MOST = 500;
    private static final int FRAMES_MOST = 60;
    private static final int STEPS_MOST = 4000;
    private static final int LOST = 0;

    private static final int NIL = 0;
    private static final int NUMBER = 1;
    private static final int OBJECT = 2;
    private static final int BLOCK = 3;
    private static final int METHOD = 4;

    private static final int VALUE_SLOT = 0;
    private static final int METHOD_SLOT = 1;
    private static final int PARENT = 2;

    private final Compiler compiler = new Compiler();
    private final Machine machine = new Machine();
    private final Tape tape = compiler.tape;
    private final World world = machine.world;
    private final Sites sites = machine.sites;
    private final Words words = machine.words;
    private final Journal journal = machine.journal;
    private Text text = machine.text;
    private boolean loaded;

    public DelegationShop() {
    }

    // ---- text

    public int feed(int a, int b, int c, int d, int e) throws UnsupportedOperationException {
        if (tape.length + 20 > TAPE_MOST) {
            throw new UnsupportedOperationException("the tape is full");
        }
        tape.putFour(a);
        tape.putFour(b);
        tape.putFour(c);
        tape.putFour(d);
        tape.putFour(e);
        return tape.length;
    }

    public void end(int n) throws IllegalArgumentException {
        if (n < 0 || n > tape.length) {
            throw new IllegalArgumentException("the tape has not so many bytes");
        }
        tape.length = n;
    }

    public int load() {
        boolean fits = compiler.translate();
        tape.length = 0;
        if (!fits) {
            return -1 - tape.place;
        }
        Text old = text;
        text = compiler.text;
        compiler.text = old;
        machine.clear(text);
        loaded = true;
        return text.methods;
    }

    public void manner(int m) throws IllegalArgumentException {
        if (m < 0 || m > 2) {
            throw new IllegalArgumentException("no such manner");
        }
        sites.manner = m;
        sites.forgetAll();
    }

    public void forget() {
        sites.forgetAll();
    }

    // ---- running

    public int run(int m, long a, long b) throws IllegalStateException, IllegalArgumentException {
        needText();
        if (m < 0 || m >= text.methods || text.methodParameters[m] != 2) {
            throw new IllegalArgumentException("no such method of two parameters");
        }
        return machine.perform(m, a, b);
    }

    public long latest(int what) throws IllegalStateException, IllegalArgumentException {
        needText();
        needWhat(what, Journal.SUMS);
        return journal.sums[what];
    }

    public long written(int i, int what) throws IllegalStateException, IndexOutOfBoundsException, IllegalArgumentException {
        needText();
        needIndex(i, journal.keptWritten());
        needWhat(what, Journal.WRITTEN_ROW);
        return journal.writtenRows[i * Journal.WRITTEN_ROW + what];
    }

    public long begun(int i, int what) throws IllegalStateException, IndexOutOfBoundsException, IllegalArgumentException {
        needText();
        needIndex(i, journal.keptBegun());
        needWhat(what, Journal.BEGUN_ROW);
        return journal.begunRows[i * Journal.BEGUN_ROW + what];
    }

    public long failure(int i, int what) throws IllegalStateException, IndexOutOfBoundsException, IllegalArgumentException {
        needText();
        needIndex(i, journal.keptFailures());
        needWhat(what, Journal.FAILURE_ROW);
        return journal.failureRows[i * Journal.FAILURE_ROW + what];
    }

    public int calls(int m) throws IllegalStateException, IndexOutOfBoundsException {
        needText();
        needIndex(m, text.methods);
        return journal.methodCalls[m];
    }

    public int change(int o, int op, int x, long v) throws IllegalStateException, IllegalArgumentException, IndexOutOfBoundsException {
        needText();
        needWhat(op, World.CHANGES);
        needIndex(o, world.objects);
        needIndex(x, op == World.LINK || op == World.UNLINK ? world.objects : text.names);
        if (op == World.GIVE && (v < 0 || v >= text.methods)) {
            throw new IndexOutOfBoundsException("no such method");
        }
        return machine.alter(op, o, x, op == World.GIVE ? METHOD : NUMBER, v);
    }

    // ---- objects

    public int count(int what) throws IllegalStateException, IllegalArgumentException {
        needText();
        switch (what) {
            case 0:
                return text.methods;
            case 1:
                return text.names;
            case 2:
                return text.sites;
            case 3:
                return text.literals;
            case 4:
                return world.objects;
            case 5:
                return world.shapes;
            case 6:
                return words.blocks;
            case 7:
                return sites.tableSize;
            case 8:
                return sites.manner;
            default:
                throw new IllegalArgumentException("no such count");
        }
    }

    public int nameByte(int x, int k) throws IllegalStateException, IndexOutOfBoundsException {
        needText();
        needIndex(x, text.names);
        return text.letterOfName(x, k);
    }

    public int shape(int o) throws IllegalStateException, IndexOutOfBoundsException {
        needText();
        needIndex(o, world.objects);
        return world.shapeOf[o];
    }

    public int item(int s, int what) throws IllegalStateException, IndexOutOfBoundsException, IllegalArgumentException {
        needText();
        needIndex(s, world.shapes);
        if (what < 0) {
            throw new IllegalArgumentException("no such answer");
        }
        if (what == 0) {
            return world.sizes[s];
        }
        int at = (what - 1) / 2;
        if (at >= world.sizes[s]) {
            return -1;
        }
        int row = s * ITEMS_MOST + at;
        return what % 2 == 1 ? world.kinds[row] : world.whats[row];
    }

    public int next(int s, int kind, int x) throws IllegalStateException, IndexOutOfBoundsException {
        needText();
        needIndex(s, world.shapes);
        return world.longer(s, kind, x);
    }

    public long held(int o, int x, int what) throws IllegalStateException, IndexOutOfBoundsException, IllegalArgumentException {
        needText();
        needIndex(o, world.objects);
        needIndex(x, text.names);
        needWhat(what, 2);
        int at = world.slotAt(world.shapeOf[o], x);
        if (at < 0) {
            return what == 0 ? -1 : 0;
        }
        int value = o * ITEMS_MOST + at;
        return what == 0 ? world.sorts[value] : world.worths[value];
    }

    public int way(int o, int k) throws IllegalStateException, IndexOutOfBoundsException {
        needText();
        needIndex(o, world.objects);
        return world.objectOnWay(world.shapeOf[o], k);
    }

    public int look(int o, int x, int start) throws IllegalStateException, IndexOutOfBoundsException, IllegalArgumentException {
        needText();
        needIndex(o, world.objects);
        needIndex(x, text.names);
        if (start < -1 || start > world.objects) {
            throw new IllegalArgumentException("no such start");
        }
        world.lookUp(world.shapeOf[o], x, start);
        return world.place;
    }

    // ---- sites

    public int site(int i, int what) throws IllegalStateException, IndexOutOfBoundsException, IllegalArgumentException {
        needText();
        needIndex(i, text.sites);
        needWhat(what, 9);
        switch (what) {
            case 0:
                return text.siteKind[i];
            case 1:
                return text.siteName[i];
            case 8:
                return text.sitePlace[i];
            default:
                return sites.facts[i * Sites.FACTS + what - 2];
        }
    }

    public int entry(int i, int k, int what) throws IllegalStateException, IndexOutOfBoundsException, IllegalArgumentException {
        needText();
        needEntry(i, k);
        needWhat(what, Sites.ROW);
        return sites.rows[(Sites.firstRow(i) + k) * Sites.ROW + what];
    }

    public boolean rests(int i, int k, int o) throws IllegalStateException, IndexOutOfBoundsException {
        needText();
        needEntry(i, k);
        needIndex(o, world.objects);
        return sites.restsOn(Sites.firstRow(i) + k, o);
    }

    public int voids() throws IllegalStateException {
        needText();
        return sites.goneSize;
    }

    public int gone(int j, int what) throws IllegalStateException, IndexOutOfBoundsException, IllegalArgumentException {
        needText();
        needIndex(j, sites.goneSize);
        needWhat(what, Sites.GONE_ROW);
        return sites.goneRows[j * Sites.GONE_ROW + what];
    }

    public int astray() throws IllegalStateException {
        needText();
        return sites.countAstray(world);
    }

    private void needText() {
        if (!loaded) {
            throw new IllegalStateException("no text was loaded");
        }
    }

    private static void needIndex(int index, int bound) {
        if (index < 0 || index >= bound) {
            throw new IndexOutOfBoundsException("there is no such number");
        }
    }

    private static void needWhat(int what, int bound) {
        if (what < 0 || what >= bound) {
            throw new IllegalArgumentException("no such answer");
        }
    }

    private void needEntry(int i, int k) {
        if (i != -1) {
            needIndex(i, text.sites);
        }
        needIndex(k, sites.entriesOf(i));
    }

    /** The tape, and its tokens: the fault of a text is always at the token that stands here when it shows. */
    private static final class Tape {
        private static final int END = 0;
        private static final int BAD = 1;
        private static final int WORD = 2;
        private static final int NUMERAL = 3;
        private static final int EQUAL = 4;

        private static final int METHOD = 200;
        private static final int VAR = 201;
        private static final int IF = 202;
        private static final int ELSE = 203;
        private static final int WHILE = 204;
        private static final int RETURN = 205;
        private static final int ANSWER = 206;
        private static final int WRITE = 207;
        private static final int FAIL = 208;
        private static final int GUARD = 209;
        private static final int ON = 210;
        private static final int ENSURE = 211;
        private static final int SET = 212;
        private static final int ADD = 213;
        private static final int GIVE = 214;
        private static final int DROP = 215;
        private static final int LINK = 216;
        private static final int UNLINK = 217;
        private static final int CLONE = 218;
        private static final int NEW = 219;
        private static final int NIL = 220;
        private static final int SELF = 221;
        private static final int LOBBY = 222;
        private static final int ABOVE = 223;
        private static final int KEYWORDS = 24;
        // The keywords in the order of their numbers above, each with a blank behind it.
        private static final String KEYWORD_TEXT =
            "method var if else while return answer write fail guard on ensure set add give drop link unlink clone new nil self lobby above ";
        private static final String SIGNS = "{}()[]|,;.!=<>+-*/%";
        private static final int WORD_MOST = 8;
        private static final int NUMERAL_MOST = 9;

        private final byte[] bytes = new byte[TAPE_MOST];
        private int length;
        private final long[] keywords = new long[KEYWORDS];
        private final int[] kinds = new int[TAPE_MOST + 1];
        private final int[] places = new int[TAPE_MOST + 1];
        private final long[] values = new long[TAPE_MOST + 1];
        private int tokens;

        // The token that stands here; its value is that of a numeral, or the letters of a word, packed.
        private int at;
        private int kind;
        private int place;
        private long value;

        private Tape() {
            int k = 0;
            for (int i = 0; i < KEYWORD_TEXT.length() && k < KEYWORDS; i++) {
                char c = KEYWORD_TEXT.charAt(i);
                if (c == ' ') {
                    k++;
                } else {
                    keywords[k] = withLetter(keywords[k], c);
                }
            }
        }

        private void putFour(int number) {
            for (int shift = 24; shift >= 0 && length < TAPE_MOST; shift -= 8) {
                bytes[length] = (byte) (number >> shift);
                length++;
            }
        }

        private void readTokens() {
            tokens = 0;
            int i = 0;
            for (int n = 0; n < TAPE_MOST && i < length; n++) {
                int c = bytes[i];
                if (isLetter(c)) {
                    i = readWord(i);
                } else if (isDigit(c)) {
                    i = readNumeral(i);
                } else if (c == 10 || c == 32) {
                    i++;
                } else {
                    i = readSign(i);
                }
            }
            addToken(END, length, 0);
            at = -1;
            advance();
        }

        private void addToken(int itsKind, int itsPlace, long itsValue) {
            if (tokens <= TAPE_MOST) {
                kinds[tokens] = itsKind;
                places[tokens] = itsPlace;
                values[tokens] = itsValue;
                tokens++;
            }
        }

        private int readWord(int first) {
            int i = first;
            long word = 0;
            while (i < length && isLetter(bytes[i])) {
                word = withLetter(word, bytes[i]);
                i++;
            }
            addToken(i - first > WORD_MOST ? BAD : kindOfWord(word), first, word);
            return i;
        }

        private int kindOfWord(long word) {
            for (int k = 0; k < KEYWORDS; k++) {
                if (keywords[k] == word) {
                    return METHOD + k;
                }
            }
            return WORD;
        }

        private int readNumeral(int first) {
            int i = first;
            long number = 0;
            while (i < length && isDigit(bytes[i])) {
                number = number * 10 + (bytes[i] - '0');
                i++;
            }
            addToken(i - first > NUMERAL_MOST ? BAD : NUMERAL, first, number);
            return i;
        }

        private int readSign(int i) {
            int c = bytes[i];
            if (c == '=' && i + 1 < length && bytes[i + 1] == '=') {
                addToken(EQUAL, i, 0);
                return i + 2;
            }
            addToken(c > 0 && SIGNS.indexOf((char) c) >= 0 ? c : BAD, i, 0);
            return i + 1;
        }

        private void advance() {
            if (at + 1 < tokens) {
                at++;
                kind = kinds[at];
                place = places[at];
                value = values[at];
            }
        }

        /** Whether the sign = (and not ==) stands behind the token that stands here. */
        private boolean assignFollows() {
            return at + 1 < tokens && kinds[at + 1] == '=';
        }

        private static long withLetter(long word, int letter) {
            return word * 32 + (letter - 'a' + 1);
        }

        private static boolean isLetter(int c) {
            return c >= 'a' && c <= 'z';
        }

        private static boolean isDigit(int c) {
            return c >= '0' && c <= '9';
        }
    }

    /** The orders that a text becomes: each an operation with one argument, done on a stack of values. */
    private static final class Code {
        // A statement of two bytes becomes three orders at most; beside these stand the ends of methods and literals.
        private static final int ORDERS_MOST = 9600;
        private static final int GUARDS_MOST = 500;
        private static final int ONS_MOST = 1000;

        private static final int NUM = 0;
        private static final int NOTHING = 1;
        private static final int SELF = 2;
        private static final int LOBBY = 3;
        private static final int NEW = 4;
        private static final int CLONE = 5;
        private static final int WORD = 6;
        private static final int LITERAL = 7;
        private static final int LAST_VALUE = 7;
        private static final int NEGATE = 8;
        private static final int PLUS = 9;
        private static final int MINUS = 10;
        private static final int TIMES = 11;
        private static final int DIVIDE = 12;
        private static final int REST = 13;
        private static final int LESS = 14;
        private static final int MORE = 15;
        private static final int SAME = 16;
        private static final int LAST_SUM = 16;
        private static final int SEND = 17;
        private static final int ABOVE = 18;
        private static final int CALL = 19;
        private static final int SET = 20;
        private static final int LAST_MESSAGE = 20;
        private static final int ADD = 21;
        private static final int GIVE = 22;
        private static final int DROP = 23;
        private static final int LINK = 24;
        private static final int UNLINK = 25;
        private static final int LAST_CHANGE = 25;
        private static final int STEP = 26;
        private static final int KEEP = 27;
        private static final int FORGET = 28;
        private static final int WRITE = 29;
        private static final int JUMP = 30;
        private static final int UNLESS = 31;
        private static final int RETURN = 32;
        private static final int ANSWER = 33;
        private static final int END = 34;
        private static final int FAIL = 35;
        private static final int GUARD = 36;
        private static final int LEAVE = 37;
        private static final int LEFT = 38;

        private final int[] orders = new int[ORDERS_MOST];
        private final int[] arguments = new int[ORDERS_MOST];
        private int size;
        private final int[] guardFirstOn = new int[GUARDS_MOST];
        private final int[] guardEnsure = new int[GUARDS_MOST];
        private final int[] guardEnd = new int[GUARDS_MOST];
        private int guards;
        private final int[] onKind = new int[ONS_MOST];
        private final int[] onWord = new int[ONS_MOST];
        private final int[] onStart = new int[ONS_MOST];
        private final int[] onGuard = new int[ONS_MOST];
        private int ons;

        private void clear() {
            size = 0;
            guards = 0;
            ons = 0;
        }

        private int put(int order, int argument) {
            if (size >= ORDERS_MOST) {
                return ORDERS_MOST - 1;
            }
            orders[size] = order;
            arguments[size] = argument;
            size++;
            return size - 1;
        }

        /** Makes the jump that stands at an address lead to the next order. */
        private void landHere(int address) {
            if (address >= 0 && address < ORDERS_MOST) {
                arguments[address] = size;
            }
        }

        private int newGuard() {
            if (guards >= GUARDS_MOST) {
                return GUARDS_MOST - 1;
            }
            guardFirstOn[guards] = ons;
            guardEnsure[guards] = -1;
            guardEnd[guards] = -1;
            guards++;
            return guards - 1;
        }

        private void newOn(int guard, int kind, int word) {
            if (ons < ONS_MOST) {
                onKind[ons] = kind;
                onWord[ons] = word;
                onStart[ons] = size;
                onGuard[ons] = guard;
                ons++;
            }
        }

        /** The first on of a guard that takes a failure of this kind, or -1. */
        private int onFor(int guard, int kind) {
            for (int i = guardFirstOn[guard]; i >= 0 && i < ons; i++) {
                if (onGuard[i] == guard && (onKind[i] == 0 || onKind[i] == kind)) {
                    return i;
                }
            }
            return -1;
        }
    }

    /** What stands in a text: its methods, names, sites and block literals, and the orders that it becomes. */
    private static final class Text {
        private final Code code = new Code();
        private final long[] methodWord = new long[METHODS_MOST];
        private final int[] methodParameters = new int[METHODS_MOST];
        private final int[] methodStart = new int[METHODS_MOST];
        private int methods;
        private final long[] nameWord = new long[NAMES_MOST];
        private int names;
        private final int[] siteKind = new int[SITES_MOST];
        private final int[] siteName = new int[SITES_MOST];
        private final int[] sitePlace = new int[SITES_MOST];
        private int sites;
        private final int[] literalParameters = new int[LITERALS_MOST];
        private final int[] literalStart = new int[LITERALS_MOST];
        private final int[] literalMethod = new int[LITERALS_MOST];
        private int literals;

        private void clear() {
            code.clear();
            methods = 0;
            sites = 0;
            literals = 0;
            nameWord[LOST] = (('l' - 'a' + 1) * 32 + ('o' - 'a' + 1)) * 1024 + ('s' - 'a' + 1) * 32 + ('t' - 'a' + 1);
            names = 1;
        }

        private int methodOf(long word) {
            for (int m = 0; m < methods; m++) {
                if (methodWord[m] == word) {
                    return m;
                }
            }
            return -1;
        }

        /** The name that a word is, a new one if it stands as one for the first time; -1: there would be too many. */
        private int nameOf(long word) {
            for (int x = 0; x < names; x++) {
                if (nameWord[x] == word) {
                    return x;
                }
            }
            if (names >= NAMES_MOST) {
                return -1;
            }
            nameWord[names] = word;
            names++;
            return names - 1;
        }

        private int letterOfName(int x, int k) {
            int letters = 0;
            while (letters < Tape.WORD_MOST && nameWord[x] >> (5 * letters) != 0) {
                letters++;
            }
            if (k < 0 || k >= letters) {
                return 0;
            }
            return (int) (nameWord[x] >> (5 * (letters - 1 - k)) & 31) + 'a' - 1;
        }
    }

    /** Reads a text in one pass and writes its orders; the first token that does not fit stops it. */
    private static final class Compiler {
        private static final int SCOPES_MOST = OPEN_MOST + 1;
        private static final int MESSAGE_SITE = 0;
        private static final int ABOVE_SITE = 1;
        private static final int SET_SITE = 2;

        private final Tape tape = new Tape();
        // The text that is being written: never the one in use, which a faulty text must leave as it is.
        private Text text = new Text();
        private Code code = text.code;
        private final long[] words = new long[SCOPES_MOST * WORDS_MOST];
        private final int[] declared = new int[SCOPES_MOST];
        private int level;
        private int method;

        private boolean translate() {
            code = text.code;
            text.clear();
            tape.readTokens();
            try {
                readText();
            } catch (IllegalStateException refused) {
                return false;
            }
            return true;
        }

        private static void need(boolean fits) {
            if (!fits) {
                throw new IllegalStateException("no text goes on with this token");
            }
        }

        private void pass(int kind) {
            need(tape.kind == kind);
            tape.advance();
        }

        private void passOpening(int sign, int depth) {
            need(tape.kind == sign && depth < OPEN_MOST);
            tape.advance();
        }

        private void readText() {
            for (int m = 0; m <= METHODS_MOST; m++) {
                readMethod();
                if (tape.kind == Tape.END) {
                    return;
                }
            }
        }

        private void readMethod() {
            need(tape.kind == Tape.METHOD && text.methods < METHODS_MOST);
            tape.advance();
            need(tape.kind == Tape.WORD && text.methodOf(tape.value) < 0);
            method = text.methods;
            text.methodWord[method] = tape.value;
            text.methodStart[method] = code.size;
            text.methods++;
            level = 0;
            declared[0] = 0;
            tape.advance();
            passOpening('(', 0);
            text.methodParameters[method] = tape.kind == ')' ? 0 : readParameters();
            pass(')');
            readBody(0);
            code.put(Code.END, 0);
        }

        private int readParameters() {
            int n = 0;
            boolean more = true;
            while (more && n <= ARGUMENTS_MOST) {
                need(n < ARGUMENTS_MOST);
                needNewWord();
                declare(tape.value);
                tape.advance();
                n++;
                more = tape.kind == ',';
                if (more) {
                    tape.advance();
                }
            }
            return n;
        }

        private void needNewWord() {
            need(tape.kind == Tape.WORD && declared[level] < WORDS_MOST && indexIn(level, tape.value) < 0);
        }

        private int declare(long word) {
            int index = declared[level];
            words[level * WORDS_MOST + index] = word;
            declared[level]++;
            return index;
        }

        private int indexIn(int scope, long word) {
            for (int i = 0; i < declared[scope]; i++) {
                if (words[scope * WORDS_MOST + i] == word) {
                    return i;
                }
            }
            return -1;
        }

        /** How a running method or block reaches a declared word: steps outwards, times 16, and its index there. */
        private int reach(long word) {
            for (int scope = level; scope >= 0; scope--) {
                int index = indexIn(scope, word);
                if (index >= 0) {
                    return (level - scope) * 16 + index;
                }
            }
            return -1;
        }

        private void readBody(int depth) {
            passOpening('{', depth);
            readStatements('}', depth + 1);
        }

        private void readStatements(int close, int depth) {
            for (int n = 0; n < TAPE_MOST && tape.kind != close; n++) {
                readStatement(depth);
            }
            pass(close);
        }

        private void readStatement(int depth) {
            int kind = tape.kind;
            int start = code.put(Code.STEP, tape.place);
            switch (kind) {
                case Tape.VAR:
                    readVar(depth);
                    return;
                case Tape.SET:
                    readSet(depth);
                    return;
                case Tape.ADD:
                case Tape.GIVE:
                case Tape.DROP:
                    readSlotChange(kind, depth);
                    return;
                case Tape.LINK:
                case Tape.UNLINK:
                    readParentChange(kind, depth);
                    return;
                case Tape.IF:
                    readIf(depth);
                    return;
                case Tape.WHILE:
                    readWhile(start, depth);
                    return;
                case Tape.RETURN:
                case Tape.ANSWER:
                case Tape.WRITE:
                    readLeaving(kind, depth);
                    return;
                case Tape.FAIL:
                    readFail(depth);
                    return;
                case Tape.GUARD:
                    readGuard(depth);
                    return;
                default:
                    readPlain(depth);
            }
        }

        private void readVar(int depth) {
            tape.advance();
            needNewWord();
            long word = tape.value;
            tape.advance();
            pass('=');
            readExp(depth);
            pass(';');
            code.put(Code.KEEP, declare(word));
        }

        private void readPlain(int depth) {
            if (tape.kind == Tape.WORD && tape.assignFollows()) {
                int reached = reach(tape.value);
                need(reached >= 0);
                tape.advance();
                pass('=');
                readExp(depth);
                code.put(Code.KEEP, reached);
            } else {
                readExp(depth);
                code.put(Code.FORGET, 0);
            }
            pass(';');
        }

        private void readSet(int depth) {
            tape.advance();
            readExp(depth);
            pass(',');
            int site = readSite(SET_SITE);
            pass('=');
            readExp(depth);
            pass(';');
            code.put(Code.SET, site);
        }

        private void readSlotChange(int kind, int depth) {
            tape.advance();
            readExp(depth);
            pass(',');
            int name = readName();
            if (kind == Tape.ADD) {
                pass('=');
                readExp(depth);
                code.put(Code.ADD, name);
            } else if (kind == Tape.GIVE) {
                pass(',');
                need(tape.kind == Tape.WORD);
                int given = text.methodOf(tape.value);
                need(given >= 0);
                tape.advance();
                code.put(Code.GIVE, given * 128 + name);
            } else {
                code.put(Code.DROP, name);
            }
            pass(';');
        }

        private void readParentChange(int kind, int depth) {
            tape.advance();
            readExp(depth);
            pass(',');
            readExp(depth);
            pass(';');
            code.put(kind == Tape.LINK ? Code.LINK : Code.UNLINK, 0);
        }

        private void readIf(int depth) {
            tape.advance();
            readExp(depth);
            int skip = code.put(Code.UNLESS, 0);
            readBody(depth);
            if (tape.kind == Tape.ELSE) {
                tape.advance();
                int end = code.put(Code.JUMP, 0);
                code.landHere(skip);
                readBody(depth);
                code.landHere(end);
            } else {
                code.landHere(skip);
            }
        }

        private void readWhile(int start, int depth) {
            tape.advance();
            readExp(depth);
            int end = code.put(Code.UNLESS, 0);
            readBody(depth);
            // back to the order that takes the step: each time anew that the exp is worked out takes one
            code.put(Code.JUMP, start);
            code.landHere(end);
        }

        private void readLeaving(int kind, int depth) {
            tape.advance();
            readExp(depth);
            pass(';');
            if (kind == Tape.WRITE) {
                code.put(Code.WRITE, 0);
            } else {
                code.put(kind == Tape.RETURN && level > 0 ? Code.RETURN : Code.ANSWER, 0);
            }
        }

        private void readFail(int depth) {
            tape.advance();
            need(tape.kind == Tape.NUMERAL && tape.value >= 20 && tape.value <= 99);
            int kind = (int) tape.value;
            tape.advance();
            if (tape.kind == ',') {
                tape.advance();
                readExp(depth);
            } else {
                code.put(Code.NOTHING, 0);
            }
            pass(';');
            code.put(Code.FAIL, kind);
        }

        private void readGuard(int depth) {
            tape.advance();
            int guard = code.newGuard();
            code.put(Code.GUARD, guard);
            readBody(depth);
            code.put(Code.LEAVE, guard);
            need(tape.kind == Tape.ON || tape.kind == Tape.ENSURE);
            for (int n = 0; n < TAPE_MOST && tape.kind == Tape.ON; n++) {
                readOn(guard, depth);
            }
            if (tape.kind == Tape.ENSURE) {
                tape.advance();
                code.guardEnsure[guard] = code.size;
                readBody(depth);
                code.put(Code.LEFT, guard);
            }
            code.guardEnd[guard] = code.size;
        }

        private void readOn(int guard, int depth) {
            tape.advance();
            need(tape.kind == Tape.NUMERAL && tape.value <= 99);
            int kind = (int) tape.value;
            tape.advance();
            needNewWord();
            code.newOn(guard, kind, declare(tape.value));
            tape.advance();
            readBody(depth);
            code.put(Code.LEAVE, guard);
        }

        private void readExp(int depth) {
            readSum(depth);
            int order = comparison(tape.kind);
            if (order >= 0) {
                tape.advance();
                readSum(depth);
                code.put(order, 0);
            }
        }

        private static int comparison(int kind) {
            switch (kind) {
                case '<':
                    return Code.LESS;
                case '>':
                    return Code.MORE;
                case Tape.EQUAL:
                    return Code.SAME;
                default:
                    return -1;
            }
        }

        private void readSum(int depth) {
            readProduct(depth);
            for (int n = 0; n < TAPE_MOST && (tape.kind == '+' || tape.kind == '-'); n++) {
                int order = tape.kind == '+' ? Code.PLUS : Code.MINUS;
                tape.advance();
                readProduct(depth);
                code.put(order, 0);
            }
        }

        private void readProduct(int depth) {
            readUnary(depth);
            for (int n = 0; n < TAPE_MOST && (tape.kind == '*' || tape.kind == '/' || tape.kind == '%'); n++) {
                int order = tape.kind == '*' ? Code.TIMES : tape.kind == '/' ? Code.DIVIDE : Code.REST;
                tape.advance();
                readUnary(depth);
                code.put(order, 0);
            }
        }

        private void readUnary(int depth) {
            int signs = 0;
            while (signs < TAPE_MOST && tape.kind == '-') {
                signs++;
                tape.advance();
            }
            readChain(depth);
            for (int n = 0; n < signs; n++) {
                code.put(Code.NEGATE, 0);
            }
        }

        private void readChain(int depth) {
            readPrimary(depth);
            for (int n = 0; n < TAPE_MOST && (tape.kind == '.' || tape.kind == '!'); n++) {
                if (tape.kind == '.') {
                    readMessage(MESSAGE_SITE, depth);
                } else {
                    tape.advance();
                    code.put(Code.CALL, readArguments(depth));
                }
            }
        }

        private void readMessage(int siteKind, int depth) {
            pass('.');
            int site = readSite(siteKind);
            int many = tape.kind == '(' ? readArguments(depth) : 0;
            code.put(siteKind == ABOVE_SITE ? Code.ABOVE : Code.SEND, site * 8 + many);
        }

        private int readArguments(int depth) {
            passOpening('(', depth);
            int n = 0;
            boolean more = tape.kind != ')';
            while (more && n <= ARGUMENTS_MOST) {
                need(n < ARGUMENTS_MOST);
                readExp(depth + 1);
                n++;
                more = tape.kind == ',';
                if (more) {
                    tape.advance();
                }
            }
            pass(')');
            return n;
        }

        private int readSite(int kind) {
            need(text.sites < SITES_MOST);
            int place = tape.place;
            int name = readName();
            int site = text.sites;
            text.siteKind[site] = kind;
            text.siteName[site] = name;
            text.sitePlace[site] = place;
            text.sites++;
            return site;
        }

        private int readName() {
            need(tape.kind == Tape.WORD);
            int name = text.nameOf(tape.value);
            need(name >= 0);
            tape.advance();
            return name;
        }

        private void readPrimary(int depth) {
            switch (tape.kind) {
                case Tape.CLONE:
                    tape.advance();
                    readInner(depth);
                    code.put(Code.CLONE, 0);
                    return;
                case '(':
                    readInner(depth);
                    return;
                case Tape.ABOVE:
                    tape.advance();
                    code.put(Code.SELF, 0);
                    readMessage(ABOVE_SITE, depth);
                    return;
                case '[':
                    readLiteral(depth);
                    return;
                default:
                    readAtom();
            }
        }

        private void readInner(int depth) {
            passOpening('(', depth);
            readExp(depth + 1);
            pass(')');
        }

        private void readAtom() {
            switch (tape.kind) {
                case Tape.NUMERAL:
                    code.put(Code.NUM, (int) tape.value);
                    break;
                case Tape.NIL:
                    code.put(Code.NOTHING, 0);
                    break;
                case Tape.SELF:
                    code.put(Code.SELF, 0);
                    break;
                case Tape.LOBBY:
                    code.put(Code.LOBBY, 0);
                    break;
                case Tape.NEW:
                    code.put(Code.NEW, 0);
                    break;
                case Tape.WORD:
                    int reached = reach(tape.value);
                    need(reached >= 0);
                    code.put(Code.WORD, reached);
                    break;
                default:
                    need(false);
            }
            tape.advance();
        }

        private void readLiteral(int depth) {
            need(text.literals < LITERALS_MOST);
            passOpening('[', depth);
            int literal = text.literals;
            text.literals++;
            code.put(Code.LITERAL, literal);
            int over = code.put(Code.JUMP, 0);
            level++;
            declared[level] = 0;
            int parameters = 0;
            if (tape.kind == '|') {
                tape.advance();
                parameters = readParameters();
                pass('|');
            }
            text.literalParameters[literal] = parameters;
            text.literalMethod[literal] = method;
            text.literalStart[literal] = code.size;
            readStatements(']', depth + 1);
            code.put(Code.END, 0);
            code.landHere(over);
            level--;
        }
    }

    /** The objects, the shapes that they share, and the look-up of names. */
    private static final class World {
        private static final int ADD = 0;
        private static final int GIVE = 1;
        private static final int DROP = 2;
        private static final int LINK = 3;
        private static final int UNLINK = 4;
        private static final int CHANGES = 5;
        private static final int UNFIT = 7;
        private static final int FULL = 8;
        private static final int FOUR = 4;
        private static final int TURNS_MOST = 100000;

        private int objects;
        private final int[] shapeOf = new int[OBJECTS_MOST];
        private final int[] sorts = new int[OBJECTS_MOST * ITEMS_MOST];
        private final long[] worths = new long[OBJECTS_MOST * ITEMS_MOST];
        private int shapes;
        private final int[] sizes = new int[SHAPES_MOST];
        private final int[] before = new int[SHAPES_MOST];
        private final int[] kinds = new int[SHAPES_MOST * ITEMS_MOST];
        private final int[] whats = new int[SHAPES_MOST * ITEMS_MOST];

        // Where the latest look-up found its name; seen has a bit for each object of the way that it looked at.
        private int place;
        private int holder;
        private final long[] seen = new long[FOUR];
        private final int[] openShape = new int[OBJECTS_MOST + 1];
        private final int[] openItem = new int[OBJECTS_MOST + 1];
        private int open;

        private void clear() {
            shapes = 1;
            sizes[0] = 0;
            before[0] = 0;
            objects = 0;
            for (int o = 0; o < FOUR; o++) {
                newObject();
            }
        }

        /** A new object without items; -1 if there would be too many. */
        private int newObject() {
            if (objects >= OBJECTS_MOST) {
                return -1;
            }
            shapeOf[objects] = 0;
            objects++;
            return objects - 1;
        }

        private int cloneOf(int o) {
            int copy = newObject();
            if (copy >= 0) {
                shapeOf[copy] = shapeOf[o];
                System.arraycopy(sorts, o * ITEMS_MOST, sorts, copy * ITEMS_MOST, ITEMS_MOST);
                System.arraycopy(worths, o * ITEMS_MOST, worths, copy * ITEMS_MOST, ITEMS_MOST);
            }
            return copy;
        }

        /** The object that a value is, -1 if it is none. */
        private int objectOf(int sort, long worth) {
            return sort == OBJECT && worth >= 0 && worth < objects ? (int) worth : -1;
        }

        private int standsFor(int sort, long worth) {
            int o = objectOf(sort, worth);
            if (o >= 0) {
                return o;
            }
            return sort == NUMBER ? 1 : sort == BLOCK ? 2 : 3;
        }

        private int slotAt(int shape, int name) {
            int row = shape * ITEMS_MOST;
            for (int i = 0; i < sizes[shape]; i++) {
                if (whats[row + i] == name && kinds[row + i] != PARENT) {
                    return i;
                }
            }
            return -1;
        }

        private int parentAt(int shape, int parent) {
            int row = shape * ITEMS_MOST;
            for (int i = 0; i < sizes[shape]; i++) {
                if (whats[row + i] == parent && kinds[row + i] == PARENT) {
                    return i;
                }
            }
            return -1;
        }

        private void hold(int o, int at, int sort, long worth) {
            sorts[o * ITEMS_MOST + at] = sort;
            worths[o * ITEMS_MOST + at] = worth;
        }

        /** Does a change: 0, or the kind of the failure that it is. */
        private int alter(int change, int o, int x, int sort, long worth) {
            int shape = shapeOf[o];
            int at = change >= LINK ? parentAt(shape, x) : slotAt(shape, x);
            if (change == DROP || change == UNLINK) {
                return at < 0 ? UNFIT : go(o, at);
            }
            int kind = change == ADD ? VALUE_SLOT : change == GIVE ? METHOD_SLOT : PARENT;
            if (at < 0) {
                return come(o, kind, x, sort, worth);
            }
            if (kind == PARENT || kinds[shape * ITEMS_MOST + at] != kind) {
                return UNFIT;
            }
            hold(o, at, sort, worth);
            return 0;
        }

        private int come(int o, int kind, int what, int sort, long worth) {
            int at = sizes[shapeOf[o]];
            if (at >= ITEMS_MOST) {
                return FULL;
            }
            int shape = longer(shapeOf[o], kind, what);
            if (shape < 0) {
                shape = makeLonger(shapeOf[o], kind, what);
            }
            if (shape < 0) {
                return FULL;
            }
            hold(o, at, sort, worth);
            shapeOf[o] = shape;
            return 0;
        }

        private int go(int o, int at) {
            int old = shapeOf[o];
            int shape = old;
            for (int i = sizes[old]; i > at; i--) {
                shape = before[shape];
            }
            int made = at + 1;
            while (made < sizes[old]) {
                int next = longer(shape, kinds[old * ITEMS_MOST + made], whats[old * ITEMS_MOST + made]);
                if (next < 0) {
                    break;
                }
                shape = next;
                made++;
            }
            if (sizes[old] - made > SHAPES_MOST - shapes) {
                return FULL;
            }
            for (int i = made; i < sizes[old]; i++) {
                shape = Math.max(0, makeLonger(shape, kinds[old * ITEMS_MOST + i], whats[old * ITEMS_MOST + i]));
            }
            for (int i = at + 1; i < sizes[old]; i++) {
                hold(o, i - 1, sorts[o * ITEMS_MOST + i], worths[o * ITEMS_MOST + i]);
            }
            shapeOf[o] = shape;
            return 0;
        }

        /** The shape with one item more, -1 if it is not made. */
        private int longer(int shape, int kind, int what) {
            int at = sizes[shape];
            if (at >= ITEMS_MOST) {
                return -1;
            }
            for (int s = shape + 1; s < shapes; s++) {
                if (before[s] == shape && kinds[s * ITEMS_MOST + at] == kind && whats[s * ITEMS_MOST + at] == what) {
                    return s;
                }
            }
            return -1;
        }

        private int makeLonger(int shape, int kind, int what) {
            int at = sizes[shape];
            if (shapes >= SHAPES_MOST || at >= ITEMS_MOST) {
                return -1;
            }
            int made = shapes;
            shapes++;
            System.arraycopy(kinds, shape * ITEMS_MOST, kinds, made * ITEMS_MOST, ITEMS_MOST);
            System.arraycopy(whats, shape * ITEMS_MOST, whats, made * ITEMS_MOST, ITEMS_MOST);
            kinds[made * ITEMS_MOST + at] = kind;
            whats[made * ITEMS_MOST + at] = what;
            sizes[made] = at + 1;
            before[made] = shape;
            return made;
        }

        private void startWay(int shape) {
            Arrays.fill(seen, 0L);
            openShape[0] = shape;
            openItem[0] = 0;
            open = 1;
        }

        /** The next object of the way that was started, -1 behind the last. */
        private int nextOnWay() {
            for (int turn = 0; turn < TURNS_MOST && open > 0; turn++) {
                int shape = openShape[open - 1];
                int i = openItem[open - 1];
                openItem[open - 1] = i + 1;
                if (i >= sizes[shape]) {
                    open--;
                } else if (kinds[shape * ITEMS_MOST + i] == PARENT) {
                    int o = whats[shape * ITEMS_MOST + i];
                    if ((seen[o >> 6] >> (o & 63) & 1) == 0 && open <= OBJECTS_MOST) {
                        seen[o >> 6] |= 1L << (o & 63);
                        openShape[open] = shapeOf[o];
                        openItem[open] = 0;
                        open++;
                        return o;
                    }
                }
            }
            return -1;
        }

        private int objectOnWay(int shape, int k) {
            if (k < 1 || k > OBJECTS_MOST) {
                return -1;
            }
            startWay(shape);
            int o = -1;
            for (int i = 0; i < k; i++) {
                o = nextOnWay();
            }
            return o;
        }

        private void lookUp(int shape, int name, int start) {
            startWay(shape);
            place = -1;
            holder = -1;
            if (start == 0 && slotAt(shape, name) >= 0) {
                place = 0;
                return;
            }
            boolean counts = start <= 0;
            int o = nextOnWay();
            for (int k = 1; k <= OBJECTS_MOST && o >= 0; k++) {
                if (counts && slotAt(shapeOf[o], name) >= 0) {
                    place = k;
                    holder = o;
                    return;
                }
                counts = counts || o == start - 1;
                o = nextOnWay();
            }
        }
    }

    /** What the sites remember, and the table that those share which met many shapes. */
    private static final class Sites {
        private static final int OWN_MOST = 4;
        private static final int TABLE_MOST = 128;
        private static final int TABLE_FIRST = SITES_MOST * OWN_MOST;
        private static final int ROWS_MOST = TABLE_FIRST + TABLE_MOST;

        // The columns of an entry, as entry() tells them.
        private static final int SHAPE = 0;
        private static final int START = 1;
        private static final int PLACE = 2;
        private static final int HOLDER = 3;
        private static final int NAME = 4;
        private static final int ROW = 5;
        private static final int REST = 4;

        // The columns of a site: what site() tells from 2 on.
        private static final int STATE = 0;
        private static final int OWN = 1;
        private static final int USES = 2;
        private static final int MISSES = 3;
        private static final int VOIDS = 4;
        private static final int TESTS = 5;
        private static final int FACTS = 6;

        private static final int EMPTY = 0;
        private static final int ONE = 1;
        private static final int SEVERAL = 2;
        private static final int MANY = 3;

        private static final int GONE_ROW = 4;

        private final int[] rows = new int[ROWS_MOST * ROW];
        private final long[] rests = new long[ROWS_MOST * REST];
        private final int[] facts = new int[SITES_MOST * FACTS];
        private final int[] goneRows = new int[ROWS_MOST * GONE_ROW];
        private int tableSize;
        private int goneSize;
        private int manner;

        // What the latest use of a site found.
        private int place;
        private int holder;

        private void clear() {
            forgetAll();
            goneSize = 0;
        }

        private void forgetAll() {
            Arrays.fill(facts, 0);
            tableSize = 0;
        }

        private static int firstRow(int site) {
            return site < 0 ? TABLE_FIRST : site * OWN_MOST;
        }

        private int entriesOf(int site) {
            return site < 0 ? tableSize : facts[site * FACTS + OWN];
        }

        private boolean restsOn(int row, int o) {
            return (rests[row * REST + (o >> 6)] >> (o & 63) & 1) == 1;
        }

        /** Uses a site: what stands under a name from a shape and a start, remembered or looked up. */
        private void use(World world, int site, int name, int shape, int start) {
            if (manner == 0) {
                world.lookUp(shape, name, start);
                place = world.place;
                holder = world.holder;
                return;
            }
            int fact = site * FACTS;
            facts[fact + USES]++;
            int row = facts[fact + STATE] == MANY ? tableRow(shape, name, start) : ownRow(site, shape, start);
            if (facts[fact + STATE] == MANY) {
                facts[fact + TESTS]++;
            }
            if (row >= 0) {
                place = rows[row * ROW + PLACE];
                holder = rows[row * ROW + HOLDER];
                return;
            }
            facts[fact + MISSES]++;
            world.lookUp(shape, name, start);
            place = world.place;
            holder = world.holder;
            remember(world, site, name, shape, start);
        }

        private int ownRow(int site, int shape, int start) {
            int fact = site * FACTS;
            int first = firstRow(site);
            for (int k = 0; k < facts[fact + OWN]; k++) {
                int row = (first + k) * ROW;
                facts[fact + TESTS]++;
                if (rows[row + SHAPE] == shape && rows[row + START] == start) {
                    return first + k;
                }
            }
            return -1;
        }

        private int tableRow(int shape, int name, int start) {
            for (int r = TABLE_FIRST; r < TABLE_FIRST + tableSize; r++) {
                int row = r * ROW;
                if (rows[row + SHAPE] == shape && rows[row + NAME] == name && rows[row + START] == start) {
                    return r;
                }
            }
            return -1;
        }

        private void remember(World world, int site, int name, int shape, int start) {
            int fact = site * FACTS;
            int own = facts[fact + OWN];
            if (manner == 1 || own == 0 && facts[fact + STATE] <= ONE) {
                facts[fact + STATE] = ONE;
                facts[fact + OWN] = 1;
                writeRow(world, firstRow(site), name, shape, start);
            } else if (own < OWN_MOST && facts[fact + STATE] != MANY) {
                facts[fact + STATE] = SEVERAL;
                facts[fact + OWN] = own + 1;
                writeRow(world, firstRow(site) + own, name, shape, start);
            } else {
                facts[fact + STATE] = MANY;
                facts[fact + OWN] = 0;
                if (tableRow(shape, name, start) < 0) {
                    tableSize = tableSize >= TABLE_MOST ? 1 : tableSize + 1;
                    writeRow(world, TABLE_FIRST + tableSize - 1, name, shape, start);
                }
            }
        }

        private void writeRow(World world, int r, int name, int shape, int start) {
            int row = r * ROW;
            rows[row + SHAPE] = shape;
            rows[row + START] = start;
            rows[row + PLACE] = world.place;
            rows[row + HOLDER] = world.holder;
            rows[row + NAME] = name;
            System.arraycopy(world.seen, 0, rests, r * REST, REST);
        }

        /** Drops all entries that rest on an object whose shape became another one. */
        private void voidFor(int o) {
            goneSize = 0;
            for (int site = 0; site < SITES_MOST; site++) {
                int fact = site * FACTS;
                int kept = sift(site, facts[fact + OWN], o);
                facts[fact + VOIDS] += facts[fact + OWN] - kept;
                facts[fact + OWN] = kept;
            }
            tableSize = sift(-1, tableSize, o);
        }

        private int sift(int site, int many, int o) {
            int first = firstRow(site);
            int kept = 0;
            for (int r = first; r < first + many; r++) {
                if (restsOn(r, o)) {
                    noteGone(site, r);
                } else {
                    System.arraycopy(rows, r * ROW, rows, (first + kept) * ROW, ROW);
                    System.arraycopy(rests, r * REST, rests, (first + kept) * REST, REST);
                    kept++;
                }
            }
            return kept;
        }

        private void noteGone(int site, int r) {
            if (goneSize >= ROWS_MOST) {
                return;
            }
            int row = goneSize * GONE_ROW;
            goneRows[row] = site;
            goneRows[row + 1] = rows[r * ROW + SHAPE];
            goneRows[row + 2] = rows[r * ROW + NAME];
            goneRows[row + 3] = rows[r * ROW + START];
            goneSize++;
        }

        private int countAstray(World world) {
            int astray = 0;
            for (int site = -1; site < SITES_MOST; site++) {
                int first = firstRow(site);
                for (int k = 0; k < entriesOf(site); k++) {
                    int row = (first + k) * ROW;
                    world.lookUp(rows[row + SHAPE], rows[row + NAME], rows[row + START]);
                    if (world.place != rows[row + PLACE] || world.holder != rows[row + HOLDER]) {
                        astray++;
                    }
                }
            }
            return astray;
        }
    }

    /** The words of methods and blocks that were begun; those that a block may yet see stay when they end. */
    private static final class Words {
        private static final int ROOMS_MOST = BLOCKS_MOST + FRAMES_MOST;

        private final int[] sorts = new int[ROOMS_MOST * WORDS_MOST];
        private final long[] worths = new long[ROOMS_MOST * WORDS_MOST];
        private final int[] outer = new int[ROOMS_MOST];
        private final int[] home = new int[ROOMS_MOST];
        private final int[] frame = new int[ROOMS_MOST];
        private final boolean[] seenByBlock = new boolean[ROOMS_MOST];
        private final int[] selfSort = new int[ROOMS_MOST];
        private final long[] selfWorth = new long[ROOMS_MOST];
        private final int[] foundAt = new int[ROOMS_MOST];
        private final int[] holder = new int[ROOMS_MOST];
        private final int[] free = new int[ROOMS_MOST];
        private int freeRooms;
        private final int[] blockLiteral = new int[BLOCKS_MOST];
        private final int[] blockRoom = new int[BLOCKS_MOST];
        private int blocks;

        private void clear() {
            blocks = 0;
            freeRooms = ROOMS_MOST;
            for (int i = 0; i < ROOMS_MOST; i++) {
                free[i] = ROOMS_MOST - 1 - i;
            }
        }

        /** A room for the words of a beginning, all NIL; around it is that of the block's making, -1 for a method. */
        private int take(int frameNumber, int around) {
            if (freeRooms <= 0) {
                return -1;
            }
            freeRooms--;
            int room = free[freeRooms];
            Arrays.fill(sorts, room * WORDS_MOST, (room + 1) * WORDS_MOST, NIL);
            Arrays.fill(worths, room * WORDS_MOST, (room + 1) * WORDS_MOST, 0L);
            outer[room] = around;
            home[room] = around < 0 ? room : home[around];
            frame[room] = frameNumber;
            seenByBlock[room] = false;
            return room;
        }

        private void setMethod(int room, int sort, long worth, int place, int holderObject) {
            selfSort[room] = sort;
            selfWorth[room] = worth;
            foundAt[room] = place;
            holder[room] = holderObject;
        }

        private void giveBack(int room) {
            frame[room] = -1;
            if (!seenByBlock[room] && freeRooms < ROOMS_MOST) {
                free[freeRooms] = room;
                freeRooms++;
            }
        }

        private int newBlock(int literal, int room) {
            if (blocks >= BLOCKS_MOST) {
                return -1;
            }
            blockLiteral[blocks] = literal;
            blockRoom[blocks] = room;
            seenByBlock[room] = true;
            blocks++;
            return blocks - 1;
        }

        /** The block that a value is, -1 if it is none. */
        private int blockOf(int sort, long worth) {
            return sort == BLOCK && worth >= 0 && worth < blocks ? (int) worth : -1;
        }

        /** Where a word lies that the compiler told by Compiler.reach. */
        private int wordAt(int room, int reached) {
            int at = room;
            for (int hops = reached >> 4; hops > 0 && outer[at] >= 0; hops--) {
                at = outer[at];
            }
            return at * WORDS_MOST + Math.min(reached & 15, WORDS_MOST - 1);
        }

        private void keep(int room, int reached, int sort, long worth) {
            int at = wordAt(room, reached);
            sorts[at] = sort;
            worths[at] = worth;
        }
    }

    /** What is told of the latest run, and how often methods were begun. */
    private static final class Journal {
        private static final int WRITTEN_MOST = 300;
        private static final int BEGUN_MOST = 300;
        private static final int FAILURES_MOST = 64;
        private static final int WRITTEN_ROW = 2;
        private static final int BEGUN_ROW = 4;
        private static final int FAILURE_ROW = 6;

        // The sums, as latest() tells them.
        private static final int SORT = 0;
        private static final int WORTH = 1;
        private static final int STEPS = 2;
        private static final int LEFT_BY = 3;
        private static final int FAILURES = 4;
        private static final int WRITTEN = 5;
        private static final int BEGUN = 6;
        private static final int SUMS = 7;

        private final long[] sums = new long[SUMS];
        private final long[] writtenRows = new long[WRITTEN_MOST * WRITTEN_ROW];
        private final long[] begunRows = new long[BEGUN_MOST * BEGUN_ROW];
        private final long[] failureRows = new long[FAILURES_MOST * FAILURE_ROW];
        private final int[] methodCalls = new int[METHODS_MOST];

        private void clear() {
            clearRun();
            Arrays.fill(methodCalls, 0);
        }

        private void clearRun() {
            Arrays.fill(sums, 0L);
            sums[LEFT_BY] = -1;
        }

        private int keptWritten() {
            return (int) Math.min(sums[WRITTEN], WRITTEN_MOST);
        }

        private int keptBegun() {
            return (int) Math.min(sums[BEGUN], BEGUN_MOST);
        }

        private int keptFailures() {
            return (int) Math.min(sums[FAILURES], FAILURES_MOST);
        }

        private void noteAnswer(int sort, long worth) {
            sums[SORT] = sort;
            sums[WORTH] = worth;
        }

        private void noteWritten(int sort, long worth) {
            if (sums[WRITTEN] < WRITTEN_MOST) {
                int row = (int) sums[WRITTEN] * WRITTEN_ROW;
                writtenRows[row] = sort;
                writtenRows[row + 1] = worth;
            }
            sums[WRITTEN]++;
        }

        private void noteBegun(int method, int sort, long worth, int place) {
            if (sums[BEGUN] < BEGUN_MOST) {
                int row = (int) sums[BEGUN] * BEGUN_ROW;
                begunRows[row] = method;
                begunRows[row + 1] = sort;
                begunRows[row + 2] = worth;
                begunRows[row + 3] = place;
            }
            sums[BEGUN]++;
            methodCalls[method]++;
        }

        /** Notes a failure and answers its number. */
        private int noteFailure(int kind, int sort, long worth, int method, int place, int cause) {
            if (sums[FAILURES] < FAILURES_MOST) {
                int row = (int) sums[FAILURES] * FAILURE_ROW;
                failureRows[row] = kind;
                failureRows[row + 1] = sort;
                failureRows[row + 2] = worth;
                failureRows[row + 3] = method;
                failureRows[row + 4] = place;
                failureRows[row + 5] = cause;
            }
            sums[FAILURES]++;
            return (int) sums[FAILURES] - 1;
        }
    }

    /** The methods and blocks under way, the one begun last on top. */
    private static final class Frames {
        private final int[] room = new int[FRAMES_MOST];
        private final int[] method = new int[FRAMES_MOST];
        private final int[] next = new int[FRAMES_MOST];
        private final int[] statement = new int[FRAMES_MOST];
        private final int[] base = new int[FRAMES_MOST];
        private final int[] guardsBelow = new int[FRAMES_MOST];
        private final boolean[] isHandler = new boolean[FRAMES_MOST];
        private int many;
        private int handlers;

        private void push(int itsRoom, int itsMethod, int start, int stackBase, int guards, boolean handler) {
            if (many >= FRAMES_MOST) {
                return;
            }
            room[many] = itsRoom;
            method[many] = itsMethod;
            next[many] = start;
            statement[many] = 0;
            base[many] = stackBase;
            guardsBelow[many] = guards;
            isHandler[many] = handler;
            handlers += handler ? 1 : 0;
            many++;
        }

        private void pop() {
            if (many > 0) {
                many--;
                handlers -= isHandler[many] ? 1 : 0;
            }
        }
    }

    /** The guards under way, and what is going on: nothing special, a failure, or the end of a method or block. */
    private static final class Guards {
        // Each guard takes two of the brackets that may be open, and as many of them as that may be in each frame.
        private static final int GUARDS_MOST = FRAMES_MOST * (OPEN_MOST + 1);
        private static final int IN_BODY = 0;
        private static final int IN_ON = 1;
        private static final int IN_ENSURE = 2;

        private static final int NOTHING = 0;
        private static final int FAILING = 1;
        private static final int EXITING = 2;

        private final int[] part = new int[GUARDS_MOST];
        private final int[] guard = new int[GUARDS_MOST];
        private final int[] frame = new int[GUARDS_MOST];
        private final int[] cause = new int[GUARDS_MOST];
        private int many;

        // What had been going on when the ensure of a guard was begun.
        private final int[] keptGoing = new int[GUARDS_MOST];
        private final int[] keptKind = new int[GUARDS_MOST];
        private final int[] keptSort = new int[GUARDS_MOST];
        private final long[] keptWorth = new long[GUARDS_MOST];
        private final int[] keptNumber = new int[GUARDS_MOST];

        private int going;
        private int kind;
        private int sort;
        private long worth;
        // Of a failure its number, of an end the frame that ends.
        private int number;

        private void clear() {
            many = 0;
            going = NOTHING;
        }

        private void open(int itsGuard, int itsFrame) {
            if (many < GUARDS_MOST) {
                part[many] = IN_BODY;
                guard[many] = itsGuard;
                frame[many] = itsFrame;
                cause[many] = -1;
                many++;
            }
        }

        private void goOn(int whatGoes, int itsKind, int itsSort, long itsWorth, int itsNumber) {
            going = whatGoes;
            kind = itsKind;
            sort = itsSort;
            worth = itsWorth;
            number = itsNumber;
        }

        /** Lets the ensure of the topmost guard begin, behind which what is going on now goes on. */
        private void beginEnsure() {
            int top = many - 1;
            if (top >= 0) {
                part[top] = IN_ENSURE;
                keptGoing[top] = going;
                keptKind[top] = kind;
                keptSort[top] = sort;
                keptWorth[top] = worth;
                keptNumber[top] = number;
                going = NOTHING;
            }
        }

        private void endEnsure() {
            int top = many - 1;
            if (top >= 0) {
                goOn(keptGoing[top], keptKind[top], keptSort[top], keptWorth[top], keptNumber[top]);
                many--;
            }
        }

        /** The failure for which the on's body is done that was begun last, or -1. */
        private int latestCause() {
            for (int g = many - 1; g >= 0; g--) {
                if (part[g] == IN_ON) {
                    return cause[g];
                }
            }
            return -1;
        }
    }

    /** Does the orders of a text: one run at a time. */
    private static final class Machine {
        // A method's or block's unfinished exps keep fewer than ten values for each bracket that is open.
        private static final int STACK_MOST = FRAMES_MOST * (OPEN_MOST + 1) * 10;
        // Each pass through a loop and each call takes a step, so the orders of a run are fewer than this by far.
        private static final int TURNS_MOST = 100000000;

        // the one number of 64 bits whose negative is none
        private static final long LEAST = 1L << 63;

        private static final int ANSWERED = 0;
        private static final int FAILED = 1;
        private static final int SPENT = 2;
        private static final int DEPTH = 3;

        private static final int NOT_FOUND = 1;
        private static final int WRONG_ARGUMENTS = 2;
        private static final int NO_NUMBER = 3;
        private static final int TOO_LARGE = 4;
        private static final int BY_ZERO = 5;
        private static final int NO_OBJECT = 6;
        private static final int ENDED = 9;
        private static final int NO_BLOCK = 10;
        private static final int METHOD_IN_SET = 11;

        private final World world = new World();
        private final Sites sites = new Sites();
        private final Words words = new Words();
        private final Journal journal = new Journal();
        private final Frames frames = new Frames();
        private final Guards guards = new Guards();
        private Text text = new Text();
        private Code code = text.code;
        private final int[] sorts = new int[STACK_MOST];
        private final long[] worths = new long[STACK_MOST];
        private int size;
        // The outcome of the run, -1 while it is under way.
        private int outcome;
        // The frame on top, while an order is done.
        private int top;
        // Of the method or block that is to begin: how many arguments, where it was found, whether as a handler.
        private int newArguments;
        private int newPlace;
        private int newHolder;
        private boolean newHandles;

        private void clear(Text itsText) {
            text = itsText;
            code = itsText.code;
            world.clear();
            sites.clear();
            words.clear();
            journal.clear();
        }

        private int perform(int method, long a, long b) {
            journal.clearRun();
            guards.clear();
            size = 0;
            outcome = -1;
            push(OBJECT, 0);
            push(NUMBER, a);
            push(NUMBER, b);
            newArguments = 2;
            newPlace = 0;
            newHolder = -1;
            newHandles = false;
            beginMethod(method);
            for (int turn = 0; turn < TURNS_MOST && outcome < 0; turn++) {
                doNextOrder();
                if (guards.going != Guards.NOTHING) {
                    unwind();
                }
            }
            closeFrames(0);
            return outcome < 0 ? SPENT : outcome;
        }

        /** A change from outside or by a statement: 0, or the kind of the failure that it is. */
        private int alter(int change, int o, int x, int sort, long worth) {
            int shape = world.shapeOf[o];
            int kind = world.alter(change, o, x, sort, worth);
            if (world.shapeOf[o] != shape) {
                sites.voidFor(o);
            }
            return kind;
        }

        private void doNextOrder() {
            top = frames.many - 1;
            if (top < 0 || frames.next[top] < 0 || frames.next[top] >= code.size) {
                outcome = SPENT;
                return;
            }
            int at = frames.next[top];
            frames.next[top] = at + 1;
            int order = code.orders[at];
            int argument = code.arguments[at];
            if (order <= Code.LAST_VALUE) {
                bringValue(order, argument);
            } else if (order <= Code.LAST_SUM) {
                reckon(order);
            } else if (order <= Code.LAST_MESSAGE) {
                doMessage(order, argument);
            } else if (order <= Code.LAST_CHANGE) {
                doChange(order, argument);
            } else if (order <= Code.UNLESS) {
                doPlain(order, argument);
            } else {
                doLeaving(order, argument);
            }
        }

        private void push(int sort, long worth) {
            if (size < STACK_MOST) {
                sorts[size] = sort;
                worths[size] = worth;
                size++;
            }
        }

        /** Takes the value on top away and answers where it lies until the next one is put there. */
        private int pop() {
            if (size > 0) {
                size--;
            }
            return size;
        }

        private boolean isTrue(int at) {
            return sorts[at] > NUMBER || sorts[at] == NUMBER && worths[at] != 0;
        }

        private boolean takeStep() {
            if (journal.sums[Journal.STEPS] >= STEPS_MOST) {
                outcome = SPENT;
                return false;
            }
            journal.sums[Journal.STEPS]++;
            return true;
        }

        private void fail(int kind, int sort, long worth) {
            int number = journal.noteFailure(kind, sort, worth, frames.method[top], frames.statement[top], guards.latestCause());
            guards.goOn(Guards.FAILING, kind, sort, worth, number);
        }

        private void bringValue(int order, int argument) {
            int room = frames.room[top];
            switch (order) {
                case Code.NUM:
                    push(NUMBER, argument);
                    return;
                case Code.NOTHING:
                    push(NIL, 0);
                    return;
                case Code.SELF:
                    push(words.selfSort[words.home[room]], words.selfWorth[words.home[room]]);
                    return;
                case Code.LOBBY:
                    push(OBJECT, 0);
                    return;
                case Code.NEW:
                    pushMade(OBJECT, world.newObject());
                    return;
                case Code.CLONE:
                    int at = pop();
                    int o = world.objectOf(sorts[at], worths[at]);
                    if (o < 0) {
                        fail(NO_OBJECT, NIL, 0);
                    } else {
                        pushMade(OBJECT, world.cloneOf(o));
                    }
                    return;
                case Code.WORD:
                    int word = words.wordAt(room, argument);
                    push(words.sorts[word], words.worths[word]);
                    return;
                default:
                    pushMade(BLOCK, words.newBlock(argument, room));
            }
        }

        private void pushMade(int sort, int number) {
            if (number < 0) {
                fail(World.FULL, NIL, 0);
            } else {
                push(sort, number);
            }
        }

        private void reckon(int order) {
            int b = pop();
            if (order == Code.NEGATE) {
                negate(b);
                return;
            }
            int a = pop();
            if (order == Code.SAME) {
                push(NUMBER, sorts[a] == sorts[b] && worths[a] == worths[b] ? 1 : 0);
                return;
            }
            if (sorts[a] != NUMBER || sorts[b] != NUMBER) {
                fail(NO_NUMBER, NIL, 0);
                return;
            }
            long x = worths[a];
            long y = worths[b];
            switch (order) {
                case Code.PLUS:
                    pushSum(x + y, ((x ^ (x + y)) & (y ^ (x + y))) >= 0);
                    return;
                case Code.MINUS:
                    pushSum(x - y, ((x ^ y) & (x ^ (x - y))) >= 0);
                    return;
                case Code.TIMES:
                    pushSum(x * y, timesFits(x, y));
                    return;
                case Code.LESS:
                    push(NUMBER, x < y ? 1 : 0);
                    return;
                case Code.MORE:
                    push(NUMBER, x > y ? 1 : 0);
                    return;
                default:
                    divide(order, x, y);
            }
        }

        private void negate(int at) {
            if (sorts[at] != NUMBER) {
                fail(NO_NUMBER, NIL, 0);
            } else {
                pushSum(-worths[at], worths[at] != LEAST);
            }
        }

        private void divide(int order, long x, long y) {
            if (y == 0) {
                fail(BY_ZERO, NIL, 0);
            } else if (order == Code.REST) {
                push(NUMBER, y == -1 ? 0 : x % y);
            } else if (y == -1) {
                pushSum(-x, x != LEAST);
            } else {
                push(NUMBER, x / y);
            }
        }

        private void pushSum(long result, boolean fits) {
            if (fits) {
                push(NUMBER, result);
            } else {
                fail(TOO_LARGE, NIL, 0);
            }
        }

        private static boolean timesFits(long x, long y) {
            if (x == 0 || y == 0) {
                return true;
            }
            if (x == -1 || y == -1) {
                return x != LEAST && y != LEAST;
            }
            return x * y / y == x;
        }

        private void doMessage(int order, int argument) {
            if (!takeStep()) {
                return;
            }
            if (order == Code.SET) {
                setSlot(argument);
            } else if (order == Code.CALL) {
                callBlock(argument);
            } else {
                int method = send(argument >> 3, argument & 7, order == Code.ABOVE ? startAbove() : 0);
                if (method >= 0) {
                    beginMethod(method);
                }
            }
        }

        private int startAbove() {
            int home = words.home[frames.room[top]];
            return words.foundAt[home] == 0 ? -1 : words.holder[home] + 1;
        }

        /** Does a message but for the beginning of its method, which is what it answers; -1: it has none. */
        private int send(int site, int many, int start) {
            int at = Math.max(0, size - many - 1);
            int who = world.standsFor(sorts[at], worths[at]);
            int name = text.siteName[site];
            sites.use(world, site, name, world.shapeOf[who], start);
            if (sites.place < 0) {
                return handle(name, many, who);
            }
            int value = slotFound(who, name, sites.place, sites.holder);
            int method = methodIn(value);
            if (method < 0 && many == 0) {
                size = at;
                push(world.sorts[value], world.worths[value]);
                return -1;
            }
            if (method < 0 || text.methodParameters[method] != many) {
                fail(WRONG_ARGUMENTS, NIL, 0);
                return -1;
            }
            newArguments = many;
            newPlace = sites.place;
            newHolder = sites.holder;
            newHandles = false;
            return method;
        }

        /** Which of the values that objects hold a look-up has found. */
        private int slotFound(int who, int name, int place, int holder) {
            int o = place == 0 ? who : holder;
            return o * ITEMS_MOST + Math.max(0, world.slotAt(world.shapeOf[o], name));
        }

        /** The method that a slot holds, -1 if it holds a value. */
        private int methodIn(int value) {
            long worth = world.worths[value];
            return world.sorts[value] == METHOD && worth >= 0 && worth < text.methods ? (int) worth : -1;
        }

        /** A message that is not found: the method of the name lost takes it, or it fails. */
        private int handle(int name, int many, int who) {
            world.lookUp(world.shapeOf[who], LOST, 0);
            int method = world.place < 0 ? -1 : methodIn(slotFound(who, LOST, world.place, world.holder));
            if (method < 0 || frames.handlers > 0 || text.methodParameters[method] != 2) {
                fail(NOT_FOUND, NUMBER, name);
                return -1;
            }
            size -= many;
            push(NUMBER, name);
            push(NUMBER, many);
            newArguments = 2;
            newPlace = world.place;
            newHolder = world.holder;
            newHandles = true;
            return method;
        }

        private void setSlot(int site) {
            int v = pop();
            int e = pop();
            int who = world.standsFor(sorts[e], worths[e]);
            int name = text.siteName[site];
            sites.use(world, site, name, world.shapeOf[who], 0);
            if (sites.place < 0) {
                fail(NOT_FOUND, NUMBER, name);
                return;
            }
            int value = slotFound(who, name, sites.place, sites.holder);
            if (methodIn(value) >= 0) {
                fail(METHOD_IN_SET, NIL, 0);
            } else {
                world.sorts[value] = sorts[v];
                world.worths[value] = worths[v];
            }
        }

        private void callBlock(int many) {
            int at = Math.max(0, size - many - 1);
            int block = words.blockOf(sorts[at], worths[at]);
            if (block < 0) {
                fail(NO_BLOCK, NIL, 0);
                return;
            }
            int literal = words.blockLiteral[block];
            if (text.literalParameters[literal] != many) {
                fail(WRONG_ARGUMENTS, NIL, 0);
                return;
            }
            newArguments = many;
            newHandles = false;
            begin(words.blockRoom[block], text.literalMethod[literal], text.literalStart[literal]);
        }

        /** Begins a method whose self and arguments lie on top of the stack. */
        private void beginMethod(int method) {
            int at = Math.max(0, size - newArguments - 1);
            int room = begin(-1, method, text.methodStart[method]);
            if (room >= 0) {
                words.setMethod(room, sorts[at], worths[at], newPlace, newHolder);
                journal.noteBegun(method, sorts[at], worths[at], newPlace);
            }
        }

        /** Takes what lies on top of the stack for a method or block that begins: its room, -1 if there is none. */
        private int begin(int around, int method, int start) {
            int at = Math.max(0, size - newArguments - 1);
            int room = frames.many < FRAMES_MOST ? words.take(frames.many, around) : -1;
            if (room < 0) {
                outcome = DEPTH;
                return -1;
            }
            for (int i = 0; i < newArguments; i++) {
                words.keep(room, i, sorts[at + 1 + i], worths[at + 1 + i]);
            }
            size = at;
            frames.push(room, method, start, at, guards.many, newHandles);
            return room;
        }

        private void doChange(int order, int argument) {
            boolean parents = order == Code.LINK || order == Code.UNLINK;
            int v = order == Code.GIVE || order == Code.DROP ? 0 : pop();
            int e = pop();
            int o = world.objectOf(sorts[e], worths[e]);
            int parent = parents ? world.objectOf(sorts[v], worths[v]) : 0;
            if (o < 0 || parent < 0) {
                fail(NO_OBJECT, NIL, 0);
                return;
            }
            int kind;
            switch (order) {
                case Code.ADD:
                    kind = alter(World.ADD, o, argument, sorts[v], worths[v]);
                    break;
                case Code.GIVE:
                    kind = alter(World.GIVE, o, argument & 127, METHOD, argument >> 7);
                    break;
                case Code.DROP:
                    kind = alter(World.DROP, o, argument, NIL, 0);
                    break;
                case Code.LINK:
                    kind = alter(World.LINK, o, parent, NIL, 0);
                    break;
                default:
                    kind = alter(World.UNLINK, o, parent, NIL, 0);
            }
            if (kind != 0) {
                fail(kind, NIL, 0);
            }
        }

        private void doPlain(int order, int argument) {
            switch (order) {
                case Code.STEP:
                    if (takeStep()) {
                        frames.statement[top] = argument;
                    }
                    return;
                case Code.JUMP:
                    frames.next[top] = argument;
                    return;
                default:
            }
            int at = pop();
            switch (order) {
                case Code.KEEP:
                    words.keep(frames.room[top], argument, sorts[at], worths[at]);
                    return;
                case Code.WRITE:
                    journal.noteWritten(sorts[at], worths[at]);
                    return;
                case Code.UNLESS:
                    if (!isTrue(at)) {
                        frames.next[top] = argument;
                    }
                    return;
                default:
            }
        }

        private void doLeaving(int order, int argument) {
            switch (order) {
                case Code.RETURN:
                    returnHome(pop());
                    return;
                case Code.ANSWER:
                    int at = pop();
                    guards.goOn(Guards.EXITING, 0, sorts[at], worths[at], top);
                    return;
                case Code.END:
                    guards.goOn(Guards.EXITING, 0, NIL, 0, top);
                    return;
                case Code.FAIL:
                    int value = pop();
                    fail(argument, sorts[value], worths[value]);
                    return;
                case Code.GUARD:
                    guards.open(argument, top);
                    return;
                case Code.LEAVE:
                    leavePart(argument);
                    return;
                default:
                    guards.endEnsure();
            }
        }

        private void returnHome(int value) {
            int frame = words.frame[words.home[frames.room[top]]];
            if (frame < 0) {
                fail(ENDED, NIL, 0);
            } else {
                guards.goOn(Guards.EXITING, 0, sorts[value], worths[value], frame);
            }
        }

        /** The body of a guard, or of an on of it, has come to its end. */
        private void leavePart(int guard) {
            if (code.guardEnsure[guard] >= 0) {
                guards.beginEnsure();
                frames.next[top] = code.guardEnsure[guard];
            } else {
                frames.next[top] = code.guardEnd[guard];
                guards.many = Math.max(0, guards.many - 1);
            }
        }

        /** Leaves guards, from the topmost on, till one takes over or what goes on has come where it ends. */
        private void unwind() {
            for (int n = 0; n <= Guards.GUARDS_MOST && guards.going != Guards.NOTHING; n++) {
                int below = guards.going == Guards.EXITING ? frames.guardsBelow[guards.number] : 0;
                if (guards.many > below) {
                    leaveGuard(guards.many - 1);
                } else {
                    finish();
                }
            }
        }

        private void leaveGuard(int g) {
            int guard = guards.guard[g];
            int on = -1;
            if (guards.part[g] == Guards.IN_BODY && guards.going == Guards.FAILING) {
                on = code.onFor(guard, guards.kind);
            }
            if (on >= 0) {
                backTo(guards.frame[g], code.onStart[on]);
                words.keep(frames.room[guards.frame[g]], code.onWord[on], guards.sort, guards.worth);
                guards.part[g] = Guards.IN_ON;
                guards.cause[g] = guards.number;
                guards.going = Guards.NOTHING;
            } else if (guards.part[g] != Guards.IN_ENSURE && code.guardEnsure[guard] >= 0) {
                guards.beginEnsure();
                backTo(guards.frame[g], code.guardEnsure[guard]);
            } else {
                guards.many = g;
            }
        }

        /** Goes on in a frame with another order, all that was begun since being left. */
        private void backTo(int frame, int order) {
            closeFrames(frame + 1);
            frames.next[frame] = order;
            size = frames.base[frame];
        }

        private void finish() {
            if (guards.going == Guards.FAILING) {
                outcome = FAILED;
                journal.sums[Journal.LEFT_BY] = guards.number;
            } else {
                size = frames.base[guards.number];
                closeFrames(guards.number);
                if (guards.number == 0) {
                    outcome = ANSWERED;
                    journal.noteAnswer(guards.sort, guards.worth);
                } else {
                    push(guards.sort, guards.worth);
                }
            }
            guards.going = Guards.NOTHING;
        }

        private void closeFrames(int left) {
            for (int n = 0; n < FRAMES_MOST && frames.many > left; n++) {
                frames.pop();
                words.giveBack(frames.room[frames.many]);
            }
        }
    }
}
