import java.util.Arrays;
import java.util.NoSuchElementException;

/**
 * Texts of a small language of 32-bit numbers, compiled to words of RV32I; the processor that does
 * these words; and, beside both, the same texts worked out by the language's own meaning.
 *
 * <p>A text becomes DEEDS (see Program), small steps with one number in hand. The Assembler spells
 * each deed in words of the processor, the Worker does the deeds themselves.
 */
public final class PocketCompiler {
    public static final int NONE = -1;

    private static final int MOST_BYTES = 4000;
    private static final int MOST_TOKENS = 1500;
    private static final int MOST_SLOTS = 500;
    private static final int MOST_FUNCTIONS = 40;
    private static final int MOST_GLOBALS = 60;
    private static final int MOST_KEPT = 200;

    private final int[] tape = new int[MOST_BYTES];
    private int taped;
    private Program loaded;
    private Program spare;
    private final Parser parser;
    private final Assembler assembler;
    private int latestFault;
    private int latestPlace = NONE;
    private final Gifts gifts = new Gifts();
    private final Processor processor;
    private final Worker worker;
    private final Shower shower = new Shower();

    public PocketCompiler(int words) {
        int size = words >= 256 && words <= 4096 ? words : 1024;
        loaded = new Program(size);
        spare = new Program(size);
        parser = new Parser(loaded);
        assembler = new Assembler(loaded, size);
        processor = new Processor(size, gifts);
        worker = new Worker(loaded, size, gifts);
        parser.readText(loaded);
        assembler.assemble(loaded);
    }

    public boolean feed(int a, int b, int c, int d, int e) {
        if (taped + 20 > MOST_BYTES) {
            return false;
        }
        tapeNumber(a);
        tapeNumber(b);
        tapeNumber(c);
        tapeNumber(d);
        tapeNumber(e);
        return true;
    }

    private void tapeNumber(int number) {
        for (int shift = 24; shift >= 0 && taped < MOST_BYTES; shift -= 8) {
            tape[taped] = number >>> shift & 255;
            taped++;
        }
    }

    public boolean end(int n) {
        if (n < 0 || n > taped) {
            return false;
        }
        taped = n;
        return true;
    }

    public int load() {
        spare.copyText(tape, taped);
        taped = 0;
        latestFault = 0;
        latestPlace = NONE;
        try {
            parser.readText(spare);
        } catch (IllegalStateException refused) {
            latestFault = parser.tokens.faultKind;
            latestPlace = parser.tokens.faultPlace;
        }
        if (latestFault == 0 && !assembler.assemble(spare)) {
            latestFault = Tokens.ROOM;
            latestPlace = spare.length;
        }
        if (latestFault == 0) {
            Program before = loaded;
            loaded = spare;
            spare = before;
            worker.drop();
        }
        return latestFault;
    }

    public int fault(int what) {
        switch (what) {
            case 0: return latestFault;
            case 1: return latestPlace;
            default: return NONE;
        }
    }

    public int code(int i) throws IndexOutOfBoundsException {
        if (i < 0) {
            throw new IndexOutOfBoundsException("a word below 0");
        }
        return loaded.wordAt(i);
    }

    public int function(int f, int what) {
        return what >= 0 && what <= 3 ? loaded.functionFact(f, what) : NONE;
    }

    public int global(int g, int what) {
        return what >= 0 && what <= 3 ? loaded.globalFact(g, what) : NONE;
    }

    public int find(int sort) throws IllegalArgumentException {
        if (sort != 0 && sort != 1) {
            throw new IllegalArgumentException("neither functions nor globals");
        }
        int most = sort == 0 ? loaded.functionCount : loaded.globalCount;
        for (int k = 0; k < most; k++) {
            int place = sort == 0 ? loaded.functionFact(k, Program.PLACE) : loaded.globalFact(k, Program.PLACE);
            if (loaded.isNameAt(place, tape, taped)) {
                return k;
            }
        }
        return NONE;
    }

    public int give(int v) {
        return gifts.add(v);
    }

    public int forget() {
        return gifts.clear();
    }

    public boolean start(int f, int a, int b) {
        int parameters = loaded.functionFact(f, Program.PARAMETERS);
        if (parameters == NONE || parameters > 2) {
            return false;
        }
        processor.begin(loaded, loaded.functionFact(f, Program.ADDRESS), a, b);
        return true;
    }

    public int step() {
        processor.tick();
        return processor.status;
    }

    public int run(int n) throws IllegalArgumentException {
        if (n < 0 || n > 50000) {
            throw new IllegalArgumentException("not 0 to 50,000 steps");
        }
        return processor.ticks(n);
    }

    public int result() {
        return processor.status == Processor.HALTED ? processor.valueOf(Processor.A0) : 0;
    }

    public int register(int k) throws IndexOutOfBoundsException {
        if (k < 0 || k > 32) {
            throw new IndexOutOfBoundsException("no such register");
        }
        return k == 32 ? processor.pc : processor.valueOf(k);
    }

    public void set(int k, int v) throws IndexOutOfBoundsException {
        if (k < 0 || k > 32) {
            throw new IndexOutOfBoundsException("no such register");
        }
        processor.change(k, v);
    }

    public int word(int address) throws IllegalArgumentException, IndexOutOfBoundsException {
        checkAddress(address);
        return processor.wordAt(address);
    }

    public void poke(int address, int v) throws IllegalArgumentException, IndexOutOfBoundsException {
        checkAddress(address);
        processor.layWord(address, v);
    }

    private void checkAddress(int address) {
        if ((address & 3) != 0) {
            throw new IllegalArgumentException("no multiple of 4");
        }
        if (!processor.hasWord(address)) {
            throw new IndexOutOfBoundsException("not in the memory");
        }
    }

    public int put(int k) throws NoSuchElementException {
        if (k < 0 || k >= processor.putCount || k >= MOST_KEPT) {
            throw new NoSuchElementException("no such number, or not kept");
        }
        return processor.puts[k];
    }

    public int show(int word) {
        return shower.spell(word);
    }

    public int octet(int k) {
        return shower.byteAt(k);
    }

    public int work(int f, int a, int b, int n) throws NoSuchElementException, IllegalArgumentException {
        int parameters = loaded.functionFact(f, Program.PARAMETERS);
        if (parameters == NONE) {
            throw new NoSuchElementException("no such function");
        }
        if (parameters > 2 || n < 0 || n > 20000) {
            throw new IllegalArgumentException("more than two parameters, or not 0 to 20,000 turns");
        }
        worker.begin(loaded, n);
        return worker.perform(f, a, b);
    }

    public int told(int what) {
        return worker.fact(what);
    }

    public int worked(int k) throws NoSuchElementException {
        if (!worker.hasWorked || k < 0 || k >= worker.putCount || k >= MOST_KEPT) {
            throw new NoSuchElementException("no such number, or not kept");
        }
        return worker.puts[k];
    }

    public int left(int g, int k) throws NoSuchElementException {
        if (!worker.hasWorked || k < 0 || k >= loaded.globalFact(g, Program.SIZE)) {
            throw new NoSuchElementException("no work, no such global or no such number");
        }
        return worker.cellAt(loaded.firstCell(g) + k);
    }

    public int count(int what) {
        switch (what) {
            case 0: return taped;
            case 1: return loaded.wordCount;
            case 2: return loaded.functionCount;
            case 3: return loaded.globalCount;
            case 4: return loaded.limit;
            case 5: return processor.status;
            case 6: return processor.steps;
            case 7: return processor.putCount;
            case 8: return gifts.size;
            case 9: return processor.size();
            case 10: return processor.status == Processor.HALTED ? processor.valueOf(Processor.A7) : 0;
            default: return NONE;
        }
    }

    /** A text with what has been made of it: its functions, globals, deeds and words. */
    private static final class Program {
        // What a function's or a global's row tells; 0 to 3 are the numbers of the document.
        static final int PARAMETERS = 0;
        static final int SIZE = 0;
        static final int ADDRESS = 1;
        static final int FRAME = 2;
        static final int ROW = 2;
        static final int PLACE = 3;
        static final int NAME = 4;
        static final int ENTRY = 5;

        // The deeds, with what their numbers x and y tell. HAND is the number that is worked on.
        static final int ENTER = 0;     // function x begins
        static final int LEAVE = 1;     // it ends, its value in hand
        static final int NUMBER = 2;    // hand: x
        static final int LOCAL = 3;     // hand: slot x
        static final int KEEP = 4;      // slot x: hand
        static final int VARIABLE = 5;  // hand: global x
        static final int STORE = 6;     // global x: hand
        static final int INDEX = 7;     // hand, an index in row x, becomes a place
        static final int FETCH = 8;     // hand, a place in row x, becomes its number
        static final int HOLD = 9;      // slot y: hand, a place in row x
        static final int PEEK = 10;     // hand, a held place, becomes its number
        static final int LAY = 11;      // the place held in slot x: hand
        static final int NEGATE = 12;
        static final int NOT = 13;
        static final int FLIP = 14;
        static final int TRUTH = 15;    // hand: whether it is not 0
        static final int UNLESS = 16;   // to x if hand is 0
        static final int AGAIN = 17;    // to x if hand is not 0
        static final int EITHER = 18;   // to x, with 1 in hand, if hand is not 0
        static final int JUMP = 19;     // to x
        static final int BINARY = 20;   // hand: slot y and hand joined by sign x
        static final int CALL = 21;     // function x, its arguments from slot y on
        static final int PUT = 22;
        static final int GET = 23;
        static final int TURN = 24;

        // No token brings more than two deeds.
        static final int MOST_DEEDS = 2 * MOST_TOKENS + 8;

        final int[] text = new int[MOST_BYTES];
        int length;
        final int[][] functions = new int[MOST_FUNCTIONS][6];
        int functionCount;
        final int[][] globals = new int[MOST_GLOBALS][5];
        int globalCount;
        final int[] deeds = new int[MOST_DEEDS];
        final int[] xs = new int[MOST_DEEDS];
        final int[] ys = new int[MOST_DEEDS];
        int deedCount;
        final int[] words;
        int wordCount;
        int limit;

        Program(int memoryWords) {
            words = new int[memoryWords];
        }

        void copyText(int[] bytes, int size) {
            length = size >= 0 && size <= bytes.length && size <= text.length ? size : 0;
            System.arraycopy(bytes, 0, text, 0, length);
        }

        void clear() {
            functionCount = 0;
            globalCount = 0;
            deedCount = 0;
            wordCount = 0;
            limit = 0;
        }

        int byteAt(int place) {
            return place >= 0 && place < length ? text[place] : NONE;
        }

        /** How many bytes from a place on may stand in a name. */
        int nameBytes(int place) {
            for (int k = 0; k < length; k++) {
                if (!Tokens.isNamePart(byteAt(place + k))) {
                    return k;
                }
            }
            return length;
        }

        /** Whether the name at a place is just these bytes. */
        boolean isNameAt(int place, int[] bytes, int size) {
            if (nameBytes(place) != size || size > bytes.length) {
                return false;
            }
            for (int k = 0; k < size; k++) {
                if (byteAt(place + k) != bytes[k]) {
                    return false;
                }
            }
            return true;
        }

        int functionFact(int f, int what) {
            if (f < 0 || f >= functionCount || f >= functions.length) {
                return NONE;
            }
            return what >= 0 && what < functions[f].length ? functions[f][what] : NONE;
        }

        int globalFact(int g, int what) {
            if (g < 0 || g >= globalCount || g >= globals.length) {
                return NONE;
            }
            return what >= 0 && what < globals[g].length ? globals[g][what] : NONE;
        }

        void changeFunction(int f, int what, int value) {
            if (f >= 0 && f < functions.length && what >= 0 && what < functions[f].length) {
                functions[f][what] = value;
            }
        }

        void changeGlobal(int g, int what, int value) {
            if (g >= 0 && g < globals.length && what >= 0 && what < globals[g].length) {
                globals[g][what] = value;
            }
        }

        int functionNamed(int name) {
            for (int f = 0; f < functionCount; f++) {
                if (functionFact(f, NAME) == name) {
                    return f;
                }
            }
            return NONE;
        }

        int globalNamed(int name) {
            for (int g = 0; g < globalCount; g++) {
                if (globalFact(g, NAME) == name) {
                    return g;
                }
            }
            return NONE;
        }

        /** Which of all the globals' numbers is a global's first one. */
        int firstCell(int g) {
            return (globalFact(g, ADDRESS) >> 2) - wordCount;
        }

        int wordAt(int i) {
            return i >= 0 && i < wordCount && i < words.length ? words[i] : 0;
        }
    }

    /** The tokens of a text, the one that is looked at, and the fault that ends the reading. */
    private static final class Tokens {
        static final int NO_TOKEN = 1;
        static final int MISFIT = 2;
        static final int NAME_FAULT = 3;
        static final int ARGUMENTS = 4;
        static final int BOUND = 5;
        static final int LOOP = 6;
        static final int ROOM = 7;

        static final int END = 0;
        static final int BAD = 1;
        static final int NAME = 2;
        static final int NUMBER = 3;
        static final int HUGE = 4;
        static final int CHARACTER = 5;

        static final int INT = 10;
        static final int IF = 11;
        static final int ELSE = 12;
        static final int WHILE = 13;
        static final int DO = 14;
        static final int FOR = 15;
        static final int BREAK = 16;
        static final int CONTINUE = 17;
        static final int RETURN = 18;
        static final int PUT = 19;
        static final int GET = 20;

        static final int ROUND = 30;
        static final int ROUND_END = 31;
        static final int CURLY = 32;
        static final int CURLY_END = 33;
        static final int SQUARE = 34;
        static final int SQUARE_END = 35;
        static final int SEMICOLON = 36;
        static final int COMMA = 37;
        static final int QUESTION = 38;
        static final int COLON = 39;
        static final int NOT = 40;
        static final int FLIP = 41;
        static final int ASSIGN = 42;
        static final int LAST_SET = 52;
        // From a SET other than = to its operator.
        static final int SET_TO_SIGN = 10;
        static final int PLUS = 53;
        static final int MINUS = 54;
        static final int TIMES = 55;
        static final int OVER = 56;
        static final int REST = 57;
        static final int AND = 58;
        static final int OR = 59;
        static final int XOR = 60;
        static final int UP = 61;
        static final int DOWN = 62;
        static final int EQUAL = 63;
        static final int UNEQUAL = 64;
        static final int LESS = 65;
        static final int AT_MOST = 66;
        static final int GREATER = 67;
        static final int AT_LEAST = 68;
        static final int BOTH = 69;
        static final int EITHER = 70;

        private static final int FIRST_KEYWORD = INT;
        private static final int FIRST_SIGN = ROUND;
        private static final int KEYWORD_WIDTH = 8;
        private static final int SIGN_WIDTH = 3;
        private static final String KEYWORDS =
            "int     if      else    while   do      for     break   continuereturn  put     get     ";
        private static final String SIGNS = "(  )  {  }  [  ]  ;  ,  ?  :  !  ~  =  += -= *= /= %= &= |= ^= <<=>>=+  -  *  /  %  &  |  ^  << >> == != <  <= >  >= && || ";
        private static final int[] STRENGTHS = {9, 9, 10, 10, 10, 5, 3, 4, 8, 8, 6, 6, 7, 7, 7, 7, 2, 1};

        private static final int MOST_NAME = 16;
        private static final int MOST_OPEN = 40;
        // One token above the bound, one to be seen behind it, and the end.
        private static final int ROOM_FOR_TOKENS = MOST_TOKENS + 3;

        private Program source;
        private final int[] kinds = new int[ROOM_FOR_TOKENS];
        private final int[] places = new int[ROOM_FOR_TOKENS];
        private final int[] values = new int[ROOM_FOR_TOKENS];
        private int size;
        private int at;
        private int opened;
        private int dueAt;
        private int faultKind;
        private int faultPlace;

        Tokens(Program source) {
            this.source = source;
        }

        static boolean isDigit(int c) {
            return c >= '0' && c <= '9';
        }

        static boolean isLetter(int c) {
            return c >= 'a' && c <= 'z' || c >= 'A' && c <= 'Z' || c == '_';
        }

        static boolean isNamePart(int c) {
            return c >= 'a' && c <= 'z' || c >= 'A' && c <= 'Z' || c == '_' || c >= '0' && c <= '9';
        }

        static boolean isSet(int kind) {
            return kind >= ASSIGN && kind <= LAST_SET;
        }

        /** How strongly an operator binds; 0: it is none. */
        static int strength(int kind) {
            int k = kind - PLUS;
            return k >= 0 && k < STRENGTHS.length ? STRENGTHS[k] : 0;
        }

        void scan(Program program) {
            source = program;
            size = 0;
            at = 0;
            opened = 0;
            dueAt = NONE;
            faultKind = 0;
            faultPlace = NONE;
            int place = 0;
            for (int k = 0; k < ROOM_FOR_TOKENS; k++) {
                place = scanOne(behindBlanks(place));
                if (kinds[k] == END || kinds[k] == BAD) {
                    return;
                }
            }
        }

        private int behindBlanks(int place) {
            boolean inNote = false;
            for (int p = place; p < source.length; p++) {
                int c = source.byteAt(p);
                if (inNote) {
                    inNote = c != 10;
                } else if (c == '/' && source.byteAt(p + 1) == '/') {
                    inNote = true;
                } else if (c != 9 && c != 10 && c != 13 && c != 32) {
                    return p;
                }
            }
            return source.length;
        }

        private int scanOne(int place) {
            int c = source.byteAt(place);
            if (c == NONE) {
                return add(END, place, 0, 0);
            }
            if (isLetter(c)) {
                return scanName(place);
            }
            if (isDigit(c)) {
                return scanNumber(place);
            }
            return c == '\'' ? scanCharacter(place) : scanSign(place);
        }

        private int add(int kind, int place, int value, int bytes) {
            if (size < ROOM_FOR_TOKENS) {
                kinds[size] = kind;
                places[size] = place;
                values[size] = value;
                size++;
            }
            return place + bytes;
        }

        private int scanName(int place) {
            int bytes = source.nameBytes(place);
            if (bytes > MOST_NAME) {
                return add(BAD, place, 0, 0);
            }
            for (int k = 0; k < KEYWORDS.length() / KEYWORD_WIDTH; k++) {
                if (spelled(KEYWORDS, KEYWORD_WIDTH, k, place) == bytes) {
                    return add(FIRST_KEYWORD + k, place, 0, bytes);
                }
            }
            return add(NAME, place, firstAlike(place, bytes), bytes);
        }

        /** The first token of this name stands for the name. */
        private int firstAlike(int place, int bytes) {
            for (int k = 0; k < size; k++) {
                if (kinds[k] == NAME && values[k] == k && isAlike(places[k], place, bytes)) {
                    return k;
                }
            }
            return size;
        }

        private boolean isAlike(int one, int other, int bytes) {
            for (int k = 0; k < bytes; k++) {
                if (source.byteAt(one + k) != source.byteAt(other + k)) {
                    return false;
                }
            }
            return !isNamePart(source.byteAt(one + bytes));
        }

        private int scanNumber(int place) {
            boolean hex = source.byteAt(place) == '0' && source.byteAt(place + 1) == 'x';
            int base = hex ? 16 : 10;
            int most = hex ? 8 : 10;
            int from = hex ? place + 2 : place;
            long value = 0;
            int digits = 0;
            for (int k = 0; k < most && digitValue(source.byteAt(from + k), base) != NONE; k++) {
                value = value * base + digitValue(source.byteAt(from + k), base);
                digits++;
            }
            int behind = from + digits;
            if (digits == 0 || isNamePart(source.byteAt(behind))) {
                return add(BAD, place, 0, 0);
            }
            boolean huge = !hex && value > 2147483647L;
            return add(huge ? HUGE : NUMBER, place, (int) value, behind - place);
        }

        private static int digitValue(int c, int base) {
            if (isDigit(c)) {
                return c - '0';
            }
            if (base == 16 && c >= 'a' && c <= 'f') {
                return c - 'a' + 10;
            }
            return base == 16 && c >= 'A' && c <= 'F' ? c - 'A' + 10 : NONE;
        }

        private int scanCharacter(int place) {
            int c = source.byteAt(place + 1);
            boolean whole = c >= 32 && c <= 126 && c != '\'' && source.byteAt(place + 2) == '\'';
            return whole ? add(CHARACTER, place, c, 3) : add(BAD, place, 0, 0);
        }

        private int scanSign(int place) {
            int kind = BAD;
            int most = 0;
            for (int k = 0; k < SIGNS.length() / SIGN_WIDTH; k++) {
                int bytes = spelled(SIGNS, SIGN_WIDTH, k, place);
                if (bytes > most) {
                    most = bytes;
                    kind = FIRST_SIGN + k;
                }
            }
            return add(kind, place, 0, most);
        }

        /** How many bytes an entry of a table has, if the text at a place begins with it; else 0. */
        private int spelled(String table, int width, int entry, int place) {
            for (int k = 0; k < width; k++) {
                int from = entry * width + k;
                char c = from >= 0 && from < table.length() ? table.charAt(from) : ' ';
                if (c == ' ') {
                    return k;
                }
                if (source.byteAt(place + k) != c) {
                    return 0;
                }
            }
            return width;
        }

        int kind() {
            return at >= 0 && at < size ? kinds[at] : END;
        }

        int kindBehind() {
            return at + 1 >= 0 && at + 1 < size ? kinds[at + 1] : END;
        }

        int value() {
            return at >= 0 && at < size ? values[at] : 0;
        }

        int place() {
            return at >= 0 && at < size ? places[at] : source.length;
        }

        void refuse(int kind, int place) {
            faultKind = kind;
            faultPlace = place;
            throw new IllegalStateException("a fault in the text");
        }

        /** Refuses a token that can't stand here, or is none. */
        void refuseMisfit() {
            refuse(kind() == BAD ? NO_TOKEN : MISFIT, place());
        }

        void need(int kind) {
            if (kind() != kind) {
                refuse(kind() == BAD ? NO_TOKEN : MISFIT, place());
            }
        }

        private boolean isTooMuch() {
            return at >= MOST_TOKENS || at == dueAt;
        }

        /** Goes behind a token that can stand here; what BOUND says of it comes after all else but LOOP. */
        void take() {
            if (isTooMuch()) {
                refuse(BOUND, place());
            }
            at++;
        }

        void expect(int kind) {
            if (kind() != kind) {
                refuse(kind() == BAD ? NO_TOKEN : MISFIT, place());
            }
            if (isTooMuch()) {
                refuse(BOUND, place());
            }
            at++;
        }

        /** Goes behind a token that opens something. */
        void open() {
            if (opened >= MOST_OPEN || isTooMuch()) {
                refuse(BOUND, place());
            }
            opened++;
            at++;
        }

        void close() {
            opened--;
        }

        /** The token that is looked at is one too much, if nothing worse is said of it. */
        void makeDue() {
            dueAt = at;
        }
    }

    /** What is known while a text is read: names, slots, labels, calls. It lays down the deeds. */
    private static final class Builder {
        // Each call has a name and two parentheses.
        private static final int MOST_CALLS = MOST_TOKENS / 3 + 1;

        private Program program;
        private final int[] known = new int[MOST_SLOTS];
        private int knownCount;
        private int blockStart;
        private int putBy;
        private int mostSlots;
        private final int[] labels = new int[MOST_TOKENS];
        private int labelCount;
        private final int[] callNames = new int[MOST_CALLS];
        private final int[] callPlaces = new int[MOST_CALLS];
        private final int[] callArguments = new int[MOST_CALLS];
        private int callCount;

        Builder(Program program) {
            this.program = program;
        }

        void begin(Program text) {
            program = text;
            program.clear();
            labelCount = 0;
            callCount = 0;
        }

        void beginFunction() {
            knownCount = 0;
            blockStart = 0;
            putBy = 0;
            mostSlots = 0;
        }

        int frame() {
            return 8 + 4 * mostSlots;
        }

        boolean isToldInBlock(int name) {
            return slotNamed(name) >= blockStart;
        }

        /** The slot of the innermost parameter or local of a name. */
        int slotNamed(int name) {
            for (int k = Math.min(knownCount, MOST_SLOTS) - 1; k >= 0; k--) {
                if (known[k] == name) {
                    return k;
                }
            }
            return NONE;
        }

        void learn(int name) {
            if (knownCount < MOST_SLOTS) {
                known[knownCount] = name;
                knownCount++;
            }
        }

        /** The first slot that is neither known nor put by. */
        int nextSlot() {
            return knownCount + putBy;
        }

        /** So many slots more are wanted; whether there are so many. */
        boolean wantSlots(int wanted) {
            int slots = knownCount + putBy + wanted;
            mostSlots = Math.max(mostSlots, slots);
            return slots <= MOST_SLOTS;
        }

        void add(int deed, int x, int y) {
            int k = program.deedCount;
            if (k >= 0 && k < Program.MOST_DEEDS) {
                program.deeds[k] = deed;
                program.xs[k] = x;
                program.ys[k] = y;
                program.deedCount = k + 1;
            }
        }

        int newLabel() {
            labelCount++;
            return labelCount - 1;
        }

        void setLabel(int label) {
            if (label >= 0 && label < labels.length) {
                labels[label] = program.deedCount;
            }
        }

        int addCall(int name, int place) {
            if (callCount < MOST_CALLS) {
                callNames[callCount] = name;
                callPlaces[callCount] = place;
                callArguments[callCount] = 0;
                callCount++;
            }
            return callCount - 1;
        }

        void addArgument(int call) {
            if (call >= 0 && call < MOST_CALLS) {
                callArguments[call]++;
            }
        }

        int functionOfCall(int call) {
            return call >= 0 && call < callCount ? program.functionNamed(callNames[call]) : NONE;
        }

        boolean hasItsArguments(int call) {
            int parameters = program.functionFact(functionOfCall(call), Program.PARAMETERS);
            return call >= 0 && call < callCount && callArguments[call] == parameters;
        }

        int placeOfCall(int call) {
            return call >= 0 && call < callCount ? callPlaces[call] : NONE;
        }

        /** Jumps and calls led to labels and calls by their numbers; from now on to deeds and functions. */
        void link() {
            for (int k = 0; k < program.deedCount; k++) {
                int deed = program.deeds[k];
                int x = program.xs[k];
                if (deed >= Program.UNLESS && deed <= Program.JUMP) {
                    program.xs[k] = x >= 0 && x < labels.length ? labels[x] : 0;
                } else if (deed == Program.CALL) {
                    program.xs[k] = functionOfCall(x);
                }
            }
        }
    }

    /** Reads E's. */
    private static final class Expressions {
        private static final int MOST_ARGUMENTS = 8;
        // Ten strengths in each of the forty-one E's that can be under way.
        private static final int MOST_SIGNS = 420;

        private final Tokens tokens;
        private final Builder builder;
        private final int[] signs = new int[MOST_SIGNS];
        private final int[] marks = new int[MOST_SIGNS];
        private int top;

        Expressions(Tokens tokens, Builder builder) {
            this.tokens = tokens;
            this.builder = builder;
        }

        void begin() {
            top = 0;
        }

        /**
         * Reads an E, or a C where no SET can stand. The operators that wait for their right side are
         * in a row of their own, not in calls: ten strengths would make the recursion ten times as deep.
         */
        void expression(boolean settable) {
            int floor = top;
            if (operand(settable)) {
                return;
            }
            for (int k = 0; k < MOST_TOKENS && Tokens.strength(tokens.kind()) > 0; k++) {
                int sign = tokens.kind();
                finishSigns(floor, Tokens.strength(sign));
                beginSign(sign);
                tokens.take();
                operand(false);
            }
            finishSigns(floor, 0);
            if (tokens.kind() == Tokens.QUESTION) {
                choice();
            }
        }

        /** The left side of an operator is done. */
        private void beginSign(int sign) {
            if (sign == Tokens.BOTH || sign == Tokens.EITHER) {
                int label = builder.newLabel();
                builder.add(sign == Tokens.BOTH ? Program.UNLESS : Program.EITHER, label, 0);
                push(sign, label);
                return;
            }
            int slot = builder.nextSlot();
            if (!builder.wantSlots(1)) {
                tokens.refuse(Tokens.BOUND, tokens.place());
            }
            builder.add(Program.KEEP, slot, 0);
            builder.putBy++;
            push(sign, slot);
        }

        private void push(int sign, int mark) {
            if (top >= 0 && top < MOST_SIGNS) {
                signs[top] = sign;
                marks[top] = mark;
                top++;
            }
        }

        /** Ends the operators, down to the floor, that bind as strongly as the next one or stronger. */
        private void finishSigns(int floor, int strength) {
            for (int k = top - 1; k >= floor && k >= 0 && Tokens.strength(signs[k]) >= strength; k--) {
                top = k;
                if (signs[k] == Tokens.BOTH || signs[k] == Tokens.EITHER) {
                    builder.add(Program.TRUTH, 0, 0);
                    builder.setLabel(marks[k]);
                } else {
                    builder.putBy--;
                    builder.add(Program.BINARY, signs[k], marks[k]);
                }
            }
        }

        private void choice() {
            int other = builder.newLabel();
            int behind = builder.newLabel();
            tokens.open();
            builder.add(Program.UNLESS, other, 0);
            expression(true);
            tokens.expect(Tokens.COLON);
            builder.add(Program.JUMP, behind, 0);
            builder.setLabel(other);
            expression(false);
            builder.setLabel(behind);
            tokens.close();
        }

        /** Whether it was a whole PLACE SET E, behind which no operator can stand. */
        private boolean operand(boolean settable) {
            switch (tokens.kind()) {
                case Tokens.MINUS:
                    unary(Program.NEGATE);
                    return false;
                case Tokens.NOT:
                    unary(Program.NOT);
                    return false;
                case Tokens.FLIP:
                    unary(Program.FLIP);
                    return false;
                case Tokens.NUMBER:
                case Tokens.CHARACTER:
                    builder.add(Program.NUMBER, tokens.value(), 0);
                    tokens.take();
                    return false;
                case Tokens.HUGE:
                    tokens.refuse(Tokens.BOUND, tokens.place());
                    return false;
                case Tokens.GET:
                    tokens.take();
                    tokens.need(Tokens.ROUND);
                    tokens.open();
                    tokens.expect(Tokens.ROUND_END);
                    tokens.close();
                    builder.add(Program.GET, 0, 0);
                    return false;
                case Tokens.ROUND:
                    tokens.open();
                    expression(true);
                    tokens.expect(Tokens.ROUND_END);
                    tokens.close();
                    return false;
                case Tokens.NAME:
                    return named(settable);
                default:
                    tokens.refuseMisfit();
                    return false;
            }
        }

        private void unary(int deed) {
            tokens.open();
            operand(false);
            tokens.close();
            builder.add(deed, 0, 0);
        }

        private boolean named(boolean settable) {
            int behind = tokens.kindBehind();
            int slot = builder.slotNamed(tokens.value());
            int global = slot == NONE ? builder.program.globalNamed(tokens.value()) : NONE;
            boolean isKnown = slot != NONE || global != NONE;
            if (behind == Tokens.ROUND) {
                if (isKnown) {
                    tokens.refuse(Tokens.NAME_FAULT, tokens.place());
                }
                callFunction();
                return false;
            }
            boolean isRow = builder.program.globalFact(global, Program.ROW) == 1;
            if (!isKnown || isRow != (behind == Tokens.SQUARE)) {
                tokens.refuse(Tokens.NAME_FAULT, tokens.place());
            }
            tokens.take();
            if (isRow) {
                index(global);
            }
            if (settable && Tokens.isSet(tokens.kind())) {
                change(slot, global, isRow);
                return true;
            }
            if (isRow) {
                builder.add(Program.FETCH, global, 0);
            } else {
                read(slot, global);
            }
            return false;
        }

        private void index(int global) {
            tokens.open();
            expression(true);
            tokens.expect(Tokens.SQUARE_END);
            tokens.close();
            builder.add(Program.INDEX, global, 0);
        }

        private void read(int slot, int global) {
            if (slot != NONE) {
                builder.add(Program.LOCAL, slot, 0);
            } else {
                builder.add(Program.VARIABLE, global, 0);
            }
        }

        private void change(int slot, int global, boolean isRow) {
            int set = tokens.kind();
            boolean isPlain = set == Tokens.ASSIGN;
            if (!builder.wantSlots((isRow ? 1 : 0) + (isPlain ? 0 : 1))) {
                tokens.refuse(Tokens.BOUND, tokens.place());
            }
            tokens.open();
            int held = builder.nextSlot();
            if (isRow) {
                builder.add(Program.HOLD, global, held);
                builder.putBy++;
            }
            if (isPlain) {
                expression(true);
            } else {
                changeBy(set + Tokens.SET_TO_SIGN, slot, global, isRow);
            }
            if (isRow) {
                builder.putBy--;
                builder.add(Program.LAY, held, 0);
            } else if (slot != NONE) {
                builder.add(Program.KEEP, slot, 0);
            } else {
                builder.add(Program.STORE, global, 0);
            }
            tokens.close();
        }

        private void changeBy(int sign, int local, int global, boolean isRow) {
            if (isRow) {
                builder.add(Program.PEEK, 0, 0);
            } else {
                read(local, global);
            }
            int slot = builder.nextSlot();
            builder.add(Program.KEEP, slot, 0);
            builder.putBy++;
            expression(true);
            builder.putBy--;
            builder.add(Program.BINARY, sign, slot);
        }

        private void callFunction() {
            int call = builder.addCall(tokens.value(), tokens.place());
            int first = builder.nextSlot();
            tokens.take();
            tokens.open();
            int arguments = 0;
            if (tokens.kind() != Tokens.ROUND_END) {
                argument(call, 0);
                arguments++;
                for (int k = 1; k < MOST_TOKENS && tokens.kind() == Tokens.COMMA; k++) {
                    tokens.take();
                    argument(call, k);
                    arguments++;
                }
            }
            tokens.expect(Tokens.ROUND_END);
            tokens.close();
            builder.putBy -= arguments;
            builder.add(Program.CALL, call, first);
        }

        private void argument(int call, int k) {
            if (!builder.wantSlots(1) || k >= MOST_ARGUMENTS) {
                tokens.makeDue();
            }
            builder.addArgument(call);
            expression(true);
            builder.add(Program.KEEP, builder.nextSlot(), 0);
            builder.putBy++;
        }
    }

    /** Reads texts: their items and stats. */
    private static final class Parser {
        private static final int MOST_PARAMETERS = 8;
        private static final int MOST_IN_ROW = 1000;

        private Program program;
        private final Tokens tokens;
        private final Builder builder;
        private final Expressions expressions;
        private int breakTo;
        private int continueTo;
        private int returnTo;

        Parser(Program program) {
            this.program = program;
            tokens = new Tokens(program);
            builder = new Builder(program);
            expressions = new Expressions(tokens, builder);
        }

        /** Makes a program of its text, but for the words. */
        void readText(Program text) {
            program = text;
            tokens.scan(text);
            builder.begin(text);
            expressions.begin();
            for (int k = 0; k < MOST_TOKENS && tokens.kind() != Tokens.END; k++) {
                int behind = headOfItem();
                if (behind == Tokens.ROUND) {
                    functionItem();
                } else {
                    globalItem(behind);
                }
            }
            checkCalls();
            builder.link();
        }

        private void checkCalls() {
            for (int k = 0; k < builder.callCount; k++) {
                if (builder.functionOfCall(k) == NONE) {
                    tokens.refuse(Tokens.NAME_FAULT, builder.placeOfCall(k));
                }
                if (!builder.hasItsArguments(k)) {
                    tokens.refuse(Tokens.ARGUMENTS, builder.placeOfCall(k));
                }
            }
        }

        /** What stands behind an item's NAME, which is left to be taken. */
        private int headOfItem() {
            tokens.expect(Tokens.INT);
            tokens.need(Tokens.NAME);
            int name = tokens.value();
            if (program.functionNamed(name) != NONE || program.globalNamed(name) != NONE) {
                tokens.refuse(Tokens.NAME_FAULT, tokens.place());
            }
            return tokens.kindBehind();
        }

        private void globalItem(int behind) {
            int g = program.globalCount;
            boolean isRow = behind == Tokens.SQUARE;
            boolean isGlobal = isRow || behind == Tokens.SEMICOLON;
            if (isGlobal && g >= MOST_GLOBALS) {
                tokens.refuse(Tokens.BOUND, tokens.place());
            }
            program.changeGlobal(g, Program.NAME, tokens.value());
            program.changeGlobal(g, Program.PLACE, tokens.place());
            tokens.take();
            program.changeGlobal(g, Program.ROW, isRow ? 1 : 0);
            program.changeGlobal(g, Program.SIZE, isRow ? rowSize() : 1);
            tokens.expect(Tokens.SEMICOLON);
            program.globalCount = g + 1;
        }

        private int rowSize() {
            tokens.open();
            boolean isHuge = tokens.kind() == Tokens.HUGE;
            if (!isHuge) {
                tokens.need(Tokens.NUMBER);
            }
            int size = tokens.value();
            if (isHuge || size < 1 || size > MOST_IN_ROW) {
                tokens.refuse(Tokens.BOUND, tokens.place());
            }
            tokens.take();
            tokens.expect(Tokens.SQUARE_END);
            tokens.close();
            return size;
        }

        private void functionItem() {
            int f = program.functionCount;
            if (f >= MOST_FUNCTIONS) {
                tokens.refuse(Tokens.BOUND, tokens.place());
            }
            program.functionCount = f + 1;
            program.changeFunction(f, Program.NAME, tokens.value());
            program.changeFunction(f, Program.PLACE, tokens.place());
            builder.beginFunction();
            tokens.take();
            parameters();
            program.changeFunction(f, Program.PARAMETERS, builder.knownCount);
            program.changeFunction(f, Program.ENTRY, program.deedCount);
            builder.add(Program.ENTER, f, 0);
            breakTo = NONE;
            continueTo = NONE;
            returnTo = builder.newLabel();
            tokens.need(Tokens.CURLY);
            tokens.open();
            stats();
            tokens.expect(Tokens.CURLY_END);
            tokens.close();
            builder.add(Program.NUMBER, 0, 0);
            builder.setLabel(returnTo);
            builder.add(Program.LEAVE, 0, 0);
            program.changeFunction(f, Program.FRAME, builder.frame());
        }

        private void parameters() {
            tokens.open();
            if (tokens.kind() != Tokens.ROUND_END) {
                parameter();
                for (int k = 0; k < MOST_TOKENS && tokens.kind() == Tokens.COMMA; k++) {
                    tokens.take();
                    parameter();
                }
            }
            tokens.expect(Tokens.ROUND_END);
            tokens.close();
        }

        private void parameter() {
            tokens.expect(Tokens.INT);
            int name = newName();
            if (builder.knownCount >= MOST_PARAMETERS) {
                tokens.refuse(Tokens.BOUND, tokens.place());
            }
            wantSlot();
            tokens.take();
            builder.learn(name);
        }

        /** A NAME that is not told yet in this block; it is left to be taken. */
        private int newName() {
            tokens.need(Tokens.NAME);
            if (builder.isToldInBlock(tokens.value())) {
                tokens.refuse(Tokens.NAME_FAULT, tokens.place());
            }
            return tokens.value();
        }

        private void wantSlot() {
            if (!builder.wantSlots(1)) {
                tokens.refuse(Tokens.BOUND, tokens.place());
            }
        }

        private void stats() {
            for (int k = 0; k < MOST_TOKENS && tokens.kind() != Tokens.CURLY_END; k++) {
                stat();
            }
        }

        private void stat() {
            switch (tokens.kind()) {
                case Tokens.CURLY:
                    block();
                    break;
                case Tokens.INT:
                    local();
                    break;
                case Tokens.IF:
                    ifStat();
                    break;
                case Tokens.WHILE:
                    loopStat(Tokens.WHILE);
                    break;
                case Tokens.DO:
                    loopStat(Tokens.DO);
                    break;
                case Tokens.FOR:
                    loopStat(Tokens.FOR);
                    break;
                case Tokens.BREAK:
                    jumpStat(breakTo);
                    break;
                case Tokens.CONTINUE:
                    jumpStat(continueTo);
                    break;
                case Tokens.RETURN:
                    returnStat();
                    break;
                case Tokens.PUT:
                    tokens.take();
                    condition();
                    builder.add(Program.PUT, 0, 0);
                    tokens.expect(Tokens.SEMICOLON);
                    break;
                case Tokens.SEMICOLON:
                    tokens.take();
                    break;
                default:
                    expressions.expression(true);
                    tokens.expect(Tokens.SEMICOLON);
                    break;
            }
        }

        private void block() {
            int count = builder.knownCount;
            int start = builder.blockStart;
            builder.blockStart = count;
            tokens.open();
            stats();
            tokens.expect(Tokens.CURLY_END);
            tokens.close();
            builder.knownCount = count;
            builder.blockStart = start;
        }

        /** A stat of an if or a loop: an int there is in a block of its own. */
        private void innerStat() {
            int count = builder.knownCount;
            int start = builder.blockStart;
            builder.blockStart = count;
            stat();
            builder.knownCount = count;
            builder.blockStart = start;
        }

        private void local() {
            tokens.take();
            int name = newName();
            wantSlot();
            int slot = builder.nextSlot();
            tokens.take();
            if (tokens.kind() == Tokens.ASSIGN) {
                tokens.take();
                expressions.expression(true);
            } else {
                builder.add(Program.NUMBER, 0, 0);
            }
            builder.add(Program.KEEP, slot, 0);
            tokens.expect(Tokens.SEMICOLON);
            builder.learn(name);
        }

        private void condition() {
            tokens.need(Tokens.ROUND);
            tokens.open();
            expressions.expression(true);
            tokens.expect(Tokens.ROUND_END);
            tokens.close();
        }

        private void ifStat() {
            int other = builder.newLabel();
            tokens.open();
            condition();
            builder.add(Program.UNLESS, other, 0);
            innerStat();
            if (tokens.kind() == Tokens.ELSE) {
                int behind = builder.newLabel();
                tokens.take();
                builder.add(Program.JUMP, behind, 0);
                builder.setLabel(other);
                innerStat();
                builder.setLabel(behind);
            } else {
                builder.setLabel(other);
            }
            tokens.close();
        }

        private void loopStat(int kind) {
            int outerBreak = breakTo;
            int outerContinue = continueTo;
            breakTo = builder.newLabel();
            continueTo = builder.newLabel();
            tokens.open();
            if (kind == Tokens.WHILE) {
                whileRest();
            } else if (kind == Tokens.DO) {
                doRest();
            } else {
                forRest();
            }
            builder.setLabel(breakTo);
            tokens.close();
            breakTo = outerBreak;
            continueTo = outerContinue;
        }

        private void whileRest() {
            builder.setLabel(continueTo);
            builder.add(Program.TURN, 0, 0);
            condition();
            builder.add(Program.UNLESS, breakTo, 0);
            innerStat();
            builder.add(Program.JUMP, continueTo, 0);
        }

        private void doRest() {
            int again = builder.newLabel();
            builder.setLabel(again);
            builder.add(Program.TURN, 0, 0);
            innerStat();
            builder.setLabel(continueTo);
            tokens.expect(Tokens.WHILE);
            condition();
            builder.add(Program.AGAIN, again, 0);
            tokens.expect(Tokens.SEMICOLON);
        }

        private void forRest() {
            int again = builder.newLabel();
            int body = builder.newLabel();
            tokens.need(Tokens.ROUND);
            tokens.open();
            optional(Tokens.SEMICOLON);
            tokens.expect(Tokens.SEMICOLON);
            builder.setLabel(again);
            builder.add(Program.TURN, 0, 0);
            if (optional(Tokens.SEMICOLON)) {
                builder.add(Program.UNLESS, breakTo, 0);
            }
            tokens.expect(Tokens.SEMICOLON);
            builder.add(Program.JUMP, body, 0);
            builder.setLabel(continueTo);
            optional(Tokens.ROUND_END);
            tokens.expect(Tokens.ROUND_END);
            tokens.close();
            builder.add(Program.JUMP, again, 0);
            builder.setLabel(body);
            innerStat();
            builder.add(Program.JUMP, continueTo, 0);
        }

        /** Reads an E, if what would end it does not stand there at once; whether there was one. */
        private boolean optional(int end) {
            if (tokens.kind() == end) {
                return false;
            }
            expressions.expression(true);
            return true;
        }

        private void jumpStat(int label) {
            int place = tokens.place();
            tokens.take();
            if (label == NONE) {
                tokens.refuse(Tokens.LOOP, place);
            }
            builder.add(Program.JUMP, label, 0);
            tokens.expect(Tokens.SEMICOLON);
        }

        private void returnStat() {
            tokens.take();
            if (tokens.kind() == Tokens.SEMICOLON) {
                builder.add(Program.NUMBER, 0, 0);
            } else {
                expressions.expression(true);
            }
            builder.add(Program.JUMP, returnTo, 0);
            tokens.expect(Tokens.SEMICOLON);
        }
    }

    /** Spells deeds in words of the processor. */
    private static final class Assembler {
        private static final int Z = 0;
        private static final int RA = 1;
        private static final int SP = 2;
        private static final int T0 = 5;
        private static final int T1 = 6;
        private static final int T2 = 7;
        private static final int FP = 8;
        private static final int A0 = 10;
        private static final int A7 = 17;
        private static final int T3 = 28;
        private static final int T4 = 29;
        private static final int T5 = 30;
        private static final int T6 = 31;

        private static final int ADDI = 0x13;
        private static final int SLLI = 0x1013;
        private static final int SLTIU = 0x3013;
        private static final int XORI = 0x4013;
        private static final int SRLI = 0x5013;
        private static final int ORI = 0x6013;
        private static final int ANDI = 0x7013;
        private static final int LW = 0x2003;
        private static final int SW = 0x2023;
        private static final int JALR = 0x67;
        private static final int JAL = 0x6F;
        private static final int LUI = 0x37;
        private static final int BEQ = 0x63;
        private static final int BNE = 0x1063;
        private static final int BGE = 0x5063;
        private static final int BLTU = 0x6063;
        private static final int ADD = 0x33;
        private static final int SUB = 0x40000033;
        private static final int SLL = 0x1033;
        private static final int SLT = 0x2033;
        private static final int SLTU = 0x3033;
        private static final int XOR = 0x4033;
        private static final int SRA = 0x40005033;
        private static final int OR = 0x6033;
        private static final int AND = 0x7033;
        private static final int ECALL = 0x73;
        private static final int EBREAK = 0x100073;

        private static final int ROOM_BEHIND = 64;

        private Program program;
        private final int memoryBytes;
        private final int[] addresses = new int[Program.MOST_DEEDS + 1];
        private int size;
        private boolean isWriting;
        private boolean hasTimes;
        private boolean hasOver;
        private int timesAddress;
        private int overAddress;

        Assembler(Program program, int memoryWords) {
            this.program = program;
            memoryBytes = 4 * memoryWords;
        }

        /**
         * Goes through the deeds twice: addresses are known only behind the first time, but no address
         * changes how many words there are. False: they have no room.
         */
        boolean assemble(Program text) {
            program = text;
            isWriting = false;
            layAll();
            if (program.limit + ROOM_BEHIND > memoryBytes) {
                return false;
            }
            isWriting = true;
            layAll();
            return true;
        }

        private void layAll() {
            size = 0;
            hasTimes = false;
            hasOver = false;
            immediate(ADDI, A7, Z, 0);
            emit(EBREAK);
            for (int k = 0; k < program.deedCount && k < Program.MOST_DEEDS; k++) {
                addresses[k] = 4 * size;
                lay(program.deeds[k], program.xs[k], program.ys[k]);
            }
            timesAddress = 4 * size;
            if (hasTimes) {
                layTimes();
            }
            overAddress = 4 * size;
            if (hasOver) {
                layOver();
            }
            program.wordCount = size;
            placeGlobals();
        }

        private void placeGlobals() {
            int address = 4 * size;
            for (int g = 0; g < program.globalCount; g++) {
                program.changeGlobal(g, Program.ADDRESS, address);
                address += 4 * program.globalFact(g, Program.SIZE);
            }
            program.limit = address;
        }

        private void emit(int word) {
            if (isWriting && size < program.words.length) {
                program.words[size] = word;
            }
            size++;
        }

        private void immediate(int form, int rd, int rs, int number) {
            emit(form | rd << 7 | rs << 15 | number << 20);
        }

        private void three(int form, int rd, int rs1, int rs2) {
            emit(form | rd << 7 | rs1 << 15 | rs2 << 20);
        }

        private void storeWord(int rs2, int number, int rs1) {
            emit(SW | (number & 31) << 7 | rs1 << 15 | rs2 << 20 | number >> 5 << 25);
        }

        private void branch(int form, int rs1, int rs2, int number) {
            emit(form | (number >> 11 & 1) << 7 | (number >> 1 & 15) << 8 | rs1 << 15 | rs2 << 20
                | (number >> 5 & 63) << 25 | number >> 12 << 31);
        }

        private void upper(int rd, int number) {
            emit(LUI | rd << 7 | high(number) << 12);
        }

        private void jump(int rd, int address) {
            int number = address - 4 * size;
            emit(JAL | rd << 7 | (number >> 12 & 255) << 12 | (number >> 11 & 1) << 20
                | (number >> 1 & 1023) << 21 | number >> 20 << 31);
        }

        private void halt(int reason) {
            immediate(ADDI, A7, Z, reason);
            emit(EBREAK);
        }

        private void outside(int service) {
            immediate(ADDI, A7, Z, service);
            emit(ECALL);
        }

        private static int high(int number) {
            return number + 2048 >>> 12;
        }

        private static int low(int number) {
            return number - (high(number) << 12);
        }

        private static int fromFrame(int slot) {
            return -12 - 4 * slot;
        }

        private void loadSlot(int rd, int slot) {
            immediate(LW, rd, FP, fromFrame(slot));
        }

        private void storeSlot(int slot) {
            storeWord(A0, fromFrame(slot), FP);
        }

        private int addressOfGlobal(int g) {
            return program.globalFact(g, Program.ADDRESS);
        }

        private int addressOfDeed(int k) {
            return k >= 0 && k < addresses.length ? addresses[k] : 0;
        }

        private void lay(int deed, int x, int y) {
            switch (deed) {
                case Program.ENTER: layEnter(x); break;
                case Program.LEAVE: layLeave(); break;
                case Program.NUMBER: layNumber(x); break;
                case Program.LOCAL: loadSlot(A0, x); break;
                case Program.KEEP: storeSlot(x); break;
                case Program.NEGATE: three(SUB, A0, Z, A0); break;
                case Program.NOT: immediate(SLTIU, A0, A0, 1); break;
                case Program.FLIP: immediate(XORI, A0, A0, -1); break;
                case Program.TRUTH: three(SLTU, A0, Z, A0); break;
                case Program.BINARY: loadSlot(T0, y); laySign(x); break;
                case Program.CALL: layCall(x, y); break;
                case Program.PUT: outside(1); break;
                case Program.GET: outside(2); break;
                case Program.TURN: break;
                default:
                    if (deed >= Program.UNLESS && deed <= Program.JUMP) {
                        layJump(deed, x);
                    } else {
                        layPlace(deed, x, y);
                    }
                    break;
            }
        }

        private void layEnter(int f) {
            int frame = program.functionFact(f, Program.FRAME);
            program.changeFunction(f, Program.ADDRESS, 4 * size);
            immediate(ADDI, SP, SP, -frame);
            upper(T1, program.limit);
            immediate(ADDI, T1, T1, low(program.limit));
            branch(BGE, SP, T1, 12);
            halt(1);
            storeWord(RA, frame - 4, SP);
            storeWord(FP, frame - 8, SP);
            immediate(ADDI, FP, SP, frame);
            for (int k = 0; k < program.functionFact(f, Program.PARAMETERS); k++) {
                immediate(LW, T1, T0, -4 * k);
                storeWord(T1, fromFrame(k), FP);
            }
        }

        private void layLeave() {
            immediate(LW, RA, FP, -4);
            immediate(ADDI, SP, FP, 0);
            immediate(LW, FP, FP, -8);
            immediate(JALR, Z, RA, 0);
        }

        private void layNumber(int number) {
            if (number >= -2048 && number <= 2047) {
                immediate(ADDI, A0, Z, number);
            } else {
                upper(A0, number);
                immediate(ADDI, A0, A0, low(number));
            }
        }

        private void layPlace(int deed, int x, int y) {
            int address = addressOfGlobal(x);
            switch (deed) {
                case Program.VARIABLE:
                    upper(T1, address);
                    immediate(LW, A0, T1, low(address));
                    break;
                case Program.STORE:
                    upper(T1, address);
                    storeWord(A0, low(address), T1);
                    break;
                case Program.INDEX:
                    layIndex(program.globalFact(x, Program.SIZE), address);
                    break;
                case Program.FETCH:
                    immediate(LW, A0, A0, low(address));
                    break;
                case Program.HOLD:
                    immediate(ADDI, A0, A0, low(address));
                    storeSlot(y);
                    break;
                case Program.PEEK:
                    immediate(LW, A0, A0, 0);
                    break;
                case Program.LAY:
                    loadSlot(T1, x);
                    storeWord(A0, 0, T1);
                    break;
                default:
                    break;
            }
        }

        private void layIndex(int numbers, int address) {
            upper(T1, numbers);
            immediate(ADDI, T1, T1, low(numbers));
            branch(BLTU, A0, T1, 12);
            immediate(ADDI, A7, Z, 3);
            emit(EBREAK);
            immediate(SLLI, A0, A0, 2);
            upper(T1, address);
            three(ADD, A0, A0, T1);
        }

        private void layJump(int deed, int target) {
            if (deed == Program.UNLESS) {
                branch(BNE, A0, Z, 8);
            } else if (deed == Program.AGAIN) {
                branch(BEQ, A0, Z, 8);
            } else if (deed == Program.EITHER) {
                branch(BEQ, A0, Z, 12);
                immediate(ADDI, A0, Z, 1);
            }
            jump(Z, addressOfDeed(target));
        }

        private void layCall(int f, int firstSlot) {
            if (program.functionFact(f, Program.PARAMETERS) > 0) {
                immediate(ADDI, T0, FP, fromFrame(firstSlot));
            }
            jump(RA, program.functionFact(f, Program.ADDRESS));
        }

        private void laySign(int sign) {
            switch (sign) {
                case Tokens.PLUS: three(ADD, A0, T0, A0); break;
                case Tokens.MINUS: three(SUB, A0, T0, A0); break;
                case Tokens.AND: three(AND, A0, T0, A0); break;
                case Tokens.OR: three(OR, A0, T0, A0); break;
                case Tokens.XOR: three(XOR, A0, T0, A0); break;
                case Tokens.UP: three(SLL, A0, T0, A0); break;
                case Tokens.DOWN: three(SRA, A0, T0, A0); break;
                case Tokens.TIMES:
                    hasTimes = true;
                    jump(T3, timesAddress);
                    break;
                case Tokens.OVER:
                    hasOver = true;
                    jump(T3, overAddress);
                    break;
                case Tokens.REST:
                    hasOver = true;
                    jump(T3, overAddress);
                    immediate(ADDI, A0, T1, 0);
                    break;
                default: layComparison(sign); break;
            }
        }

        private void layComparison(int sign) {
            switch (sign) {
                case Tokens.LESS:
                    three(SLT, A0, T0, A0);
                    break;
                case Tokens.GREATER:
                    three(SLT, A0, A0, T0);
                    break;
                case Tokens.AT_MOST:
                    three(SLT, A0, A0, T0);
                    immediate(XORI, A0, A0, 1);
                    break;
                case Tokens.AT_LEAST:
                    three(SLT, A0, T0, A0);
                    immediate(XORI, A0, A0, 1);
                    break;
                case Tokens.EQUAL:
                    three(SUB, A0, T0, A0);
                    immediate(SLTIU, A0, A0, 1);
                    break;
                case Tokens.UNEQUAL:
                    three(SUB, A0, T0, A0);
                    three(SLTU, A0, Z, A0);
                    break;
                default:
                    break;
            }
        }

        private void layTimes() {
            immediate(ADDI, T1, Z, 0);
            int again = 4 * size;
            branch(BEQ, A0, Z, 28);
            immediate(ANDI, T2, A0, 1);
            branch(BEQ, T2, Z, 8);
            three(ADD, T1, T1, T0);
            immediate(SLLI, T0, T0, 1);
            immediate(SRLI, A0, A0, 1);
            jump(Z, again);
            immediate(ADDI, A0, T1, 0);
            immediate(JALR, Z, T3, 0);
        }

        private void layOver() {
            branch(BNE, A0, Z, 12);
            halt(2);
            three(XOR, T4, T0, A0);
            immediate(ADDI, T5, T0, 0);
            branch(BGE, T0, Z, 8);
            three(SUB, T0, Z, T0);
            branch(BGE, A0, Z, 8);
            three(SUB, A0, Z, A0);
            immediate(ADDI, T1, Z, 0);
            immediate(ADDI, T2, Z, 32);
            immediate(SRLI, T6, T0, 31);
            immediate(SLLI, T0, T0, 1);
            immediate(SLLI, T1, T1, 1);
            three(OR, T1, T1, T6);
            branch(BLTU, T1, A0, 12);
            three(SUB, T1, T1, A0);
            immediate(ORI, T0, T0, 1);
            immediate(ADDI, T2, T2, -1);
            branch(BNE, T2, Z, -32);
            immediate(ADDI, A0, T0, 0);
            branch(BGE, T4, Z, 8);
            three(SUB, A0, Z, A0);
            branch(BGE, T5, Z, 8);
            three(SUB, T1, Z, T1);
            immediate(JALR, Z, T3, 0);
        }
    }

    /** What a word of the processor says. */
    private static final class Instruction {
        static final int LUI = 0;
        static final int AUIPC = 1;
        static final int JAL = 2;
        static final int JALR = 3;
        static final int BEQ = 4;
        static final int BNE = 5;
        static final int BLT = 6;
        static final int BGE = 7;
        static final int BLTU = 8;
        static final int BGEU = 9;
        static final int LB = 10;
        static final int LH = 11;
        static final int LW = 12;
        static final int LBU = 13;
        static final int LHU = 14;
        static final int SB = 15;
        static final int SH = 16;
        static final int SW = 17;
        static final int ADDI = 18;
        static final int SLTI = 19;
        static final int SLTIU = 20;
        static final int XORI = 21;
        static final int ORI = 22;
        static final int ANDI = 23;
        static final int SLLI = 24;
        static final int SRLI = 25;
        static final int SRAI = 26;
        static final int ADD = 27;
        static final int SUB = 28;
        static final int SLL = 29;
        static final int SLT = 30;
        static final int SLTU = 31;
        static final int XOR = 32;
        static final int SRL = 33;
        static final int SRA = 34;
        static final int OR = 35;
        static final int AND = 36;
        static final int FENCE = 37;
        static final int ECALL = 38;
        static final int EBREAK = 39;
        static final int ILLEGAL = 40;

        static final int NAME_WIDTH = 6;
        static final String NAMES = "lui   auipc jal   jalr  beq   bne   blt   bge   bltu  bgeu  lb    lh    lw    lbu   lhu   sb    sh    sw    addi  slti  sltiu xori  ori   andi  slli  srli  srai  add   sub   sll   slt   sltu  xor   srl   sra   or    and   fence ecall ebreakword  ";

        // By bits 14 to 12.
        private static final int[] BRANCHES = {BEQ, BNE, ILLEGAL, ILLEGAL, BLT, BGE, BLTU, BGEU};
        private static final int[] LOADS = {LB, LH, LW, ILLEGAL, LBU, LHU, ILLEGAL, ILLEGAL};
        private static final int[] STORES = {SB, SH, SW, ILLEGAL, ILLEGAL, ILLEGAL, ILLEGAL, ILLEGAL};
        private static final int[] NUMBERED = {ADDI, SLLI, SLTI, SLTIU, XORI, SRLI, ORI, ANDI};
        private static final int[] PLAIN = {ADD, SLL, SLT, SLTU, XOR, SRL, OR, AND};

        static int kindOf(int word) {
            int low = word >>> 12 & 7;
            switch (word & 127) {
                case 0x37: return LUI;
                case 0x17: return AUIPC;
                case 0x6F: return JAL;
                case 0x67: return low == 0 ? JALR : ILLEGAL;
                case 0x63: return BRANCHES[low];
                case 0x03: return LOADS[low];
                case 0x23: return STORES[low];
                case 0x13: return numberedKind(low, word >>> 25);
                case 0x33: return plainKind(low, word >>> 25);
                case 0x0F: return low == 0 ? FENCE : ILLEGAL;
                case 0x73: return word == 0x73 ? ECALL : word == 0x100073 ? EBREAK : ILLEGAL;
                default: return ILLEGAL;
            }
        }

        private static int numberedKind(int low, int high) {
            boolean isShift = low == 1 || low == 5;
            if (!isShift || high == 0) {
                return NUMBERED[low & 7];
            }
            return low == 5 && high == 32 ? SRAI : ILLEGAL;
        }

        private static int plainKind(int low, int high) {
            if (high == 0) {
                return PLAIN[low & 7];
            }
            if (high != 32) {
                return ILLEGAL;
            }
            return low == 0 ? SUB : low == 5 ? SRA : ILLEGAL;
        }

        static int target(int word) {
            return word >>> 7 & 31;
        }

        static int first(int word) {
            return word >>> 15 & 31;
        }

        static int second(int word) {
            return word >>> 20 & 31;
        }

        /** The number in a word of this kind. */
        static int number(int word, int kind) {
            if (kind == LUI || kind == AUIPC) {
                return word & 0xFFFFF000;
            }
            if (kind == JAL) {
                return word >> 31 << 20 | (word >>> 12 & 255) << 12 | (word >>> 20 & 1) << 11
                    | (word >>> 21 & 1023) << 1;
            }
            if (kind >= BEQ && kind <= BGEU) {
                return word >> 31 << 12 | (word >>> 7 & 1) << 11 | (word >>> 25 & 63) << 5 | (word >>> 8 & 15) << 1;
            }
            if (kind >= SB && kind <= SW) {
                return word >> 25 << 5 | word >>> 7 & 31;
            }
            return kind >= SLLI && kind <= SRAI ? second(word) : word >> 20;
        }
    }

    /** The numbers GIVEN. */
    private static final class Gifts {
        private static final int MOST = 64;

        private final int[] numbers = new int[MOST];
        private int size;
        private int used;

        int add(int number) {
            if (size >= MOST) {
                return NONE;
            }
            numbers[size] = number;
            size++;
            return size;
        }

        int clear() {
            int before = size;
            size = 0;
            used = 0;
            return before;
        }

        void beginAnew() {
            used = 0;
        }

        int next() {
            if (used >= size) {
                return 0;
            }
            used++;
            return numberAt(used - 1);
        }

        int numberAt(int k) {
            return k >= 0 && k < size && k < MOST ? numbers[k] : 0;
        }
    }

    /** The processor with its memory. */
    private static final class Processor {
        static final int A0 = 10;
        static final int A7 = 17;
        static final int RUNNING = 0;
        static final int HALTED = 1;
        static final int ILLEGAL = 2;
        static final int BAD = 3;
        private static final int SP = 2;
        private static final int T0 = 5;

        private final int[] memory;
        private final int[] registers = new int[32];
        private int pc;
        private int next;
        private int status;
        private int steps;
        private final int[] puts = new int[MOST_KEPT];
        private int putCount;
        private final Gifts gifts;

        Processor(int memoryWords, Gifts gifts) {
            memory = new int[memoryWords];
            this.gifts = gifts;
        }

        int size() {
            return memory.length;
        }

        int valueOf(int k) {
            return registers[k & 31];
        }

        void change(int k, int v) {
            if (k == 32) {
                pc = v;
            } else {
                write(k, v);
            }
            status = RUNNING;
        }

        private void write(int k, int v) {
            if (k > 0 && k < registers.length) {
                registers[k] = v;
            }
        }

        boolean hasWord(int address) {
            return (address & 3) == 0 && address >>> 2 < memory.length;
        }

        int wordAt(int address) {
            int k = address >>> 2;
            return k < memory.length ? memory[k] : 0;
        }

        void layWord(int address, int v) {
            int k = address >>> 2;
            if (k < memory.length) {
                memory[k] = v;
            }
        }

        void begin(Program program, int address, int a, int b) {
            Arrays.fill(memory, 0);
            for (int k = 0; k < program.wordCount; k++) {
                layWord(4 * k, program.wordAt(k));
            }
            int last = 4 * memory.length - 4;
            layWord(last, a);
            layWord(last - 4, b);
            Arrays.fill(registers, 0);
            write(T0, last);
            write(SP, last - 4);
            pc = address;
            status = RUNNING;
            steps = 0;
            putCount = 0;
            gifts.beginAnew();
        }

        int ticks(int most) {
            int before = steps;
            for (int k = 0; k < most && status == RUNNING; k++) {
                tick();
            }
            return steps - before;
        }

        void tick() {
            if (status != RUNNING) {
                return;
            }
            steps++;
            if (!hasWord(pc)) {
                status = BAD;
                return;
            }
            int word = wordAt(pc);
            int kind = Instruction.kindOf(word);
            next = pc + 4;
            perform(kind, word);
            if (status == RUNNING) {
                pc = next;
            }
        }

        private void perform(int kind, int word) {
            int left = valueOf(Instruction.first(word));
            int right = valueOf(Instruction.second(word));
            int number = Instruction.number(word, kind);
            int target = Instruction.target(word);
            if (kind == Instruction.LUI) {
                write(target, number);
            } else if (kind == Instruction.AUIPC) {
                write(target, pc + number);
            } else if (kind == Instruction.JAL) {
                jump(target, pc + number);
            } else if (kind == Instruction.JALR) {
                jump(target, left + number & ~1);
            } else if (kind <= Instruction.BGEU) {
                branch(isTaken(kind, left, right), pc + number);
            } else if (kind <= Instruction.LHU) {
                fetch(kind, target, left + number);
            } else if (kind <= Instruction.SW) {
                store(kind, right, left + number);
            } else if (kind <= Instruction.SRAI) {
                write(target, numbered(kind, left, number));
            } else if (kind <= Instruction.AND) {
                write(target, joined(kind, left, right));
            } else if (kind == Instruction.ECALL) {
                service();
            } else if (kind == Instruction.EBREAK) {
                status = HALTED;
            } else if (kind != Instruction.FENCE) {
                status = ILLEGAL;
            }
        }

        private void jump(int target, int address) {
            branch(true, address);
            if (status == RUNNING) {
                write(target, pc + 4);
            }
        }

        private void branch(boolean taken, int address) {
            if (!taken) {
                return;
            }
            if ((address & 3) != 0) {
                status = BAD;
            } else {
                next = address;
            }
        }

        private static boolean isTaken(int kind, int left, int right) {
            switch (kind) {
                case Instruction.BEQ: return left == right;
                case Instruction.BNE: return left != right;
                case Instruction.BLT: return left < right;
                case Instruction.BGE: return left >= right;
                case Instruction.BLTU: return isBelow(left, right);
                default: return !isBelow(left, right);
            }
        }

        private static boolean isBelow(int left, int right) {
            return Integer.compareUnsigned(left, right) < 0;
        }

        private static int bytesOf(int kind) {
            switch (kind) {
                case Instruction.LB:
                case Instruction.LBU:
                case Instruction.SB:
                    return 1;
                case Instruction.LH:
                case Instruction.LHU:
                case Instruction.SH:
                    return 2;
                default:
                    return 4;
            }
        }

        /** Whether so many bytes, lying as they should, are in the memory. */
        private boolean isReached(int address, int bytes) {
            return (address & bytes - 1) == 0 && hasWord(address & ~3);
        }

        private void fetch(int kind, int target, int address) {
            if (!isReached(address, bytesOf(kind))) {
                status = BAD;
                return;
            }
            int value = wordAt(address) >>> 8 * (address & 3);
            switch (kind) {
                case Instruction.LB: write(target, (byte) value); break;
                case Instruction.LBU: write(target, value & 0xFF); break;
                case Instruction.LH: write(target, (short) value); break;
                case Instruction.LHU: write(target, value & 0xFFFF); break;
                default: write(target, value); break;
            }
        }

        private void store(int kind, int value, int address) {
            int bytes = bytesOf(kind);
            if (!isReached(address, bytes)) {
                status = BAD;
                return;
            }
            int shift = 8 * (address & 3);
            int mask = (bytes == 4 ? -1 : (1 << 8 * bytes) - 1) << shift;
            layWord(address, wordAt(address) & ~mask | value << shift & mask);
        }

        private static int numbered(int kind, int left, int number) {
            switch (kind) {
                case Instruction.ADDI: return left + number;
                case Instruction.SLTI: return left < number ? 1 : 0;
                case Instruction.SLTIU: return isBelow(left, number) ? 1 : 0;
                case Instruction.XORI: return left ^ number;
                case Instruction.ORI: return left | number;
                case Instruction.ANDI: return left & number;
                case Instruction.SLLI: return left << number;
                case Instruction.SRLI: return left >>> number;
                default: return left >> number;
            }
        }

        private static int joined(int kind, int left, int right) {
            switch (kind) {
                case Instruction.ADD: return left + right;
                case Instruction.SUB: return left - right;
                case Instruction.SLL: return left << right;
                case Instruction.SLT: return left < right ? 1 : 0;
                case Instruction.SLTU: return isBelow(left, right) ? 1 : 0;
                case Instruction.XOR: return left ^ right;
                case Instruction.SRL: return left >>> right;
                case Instruction.SRA: return left >> right;
                case Instruction.OR: return left | right;
                default: return left & right;
            }
        }

        private void service() {
            int wanted = valueOf(A7);
            if (wanted == 1) {
                if (putCount < MOST_KEPT) {
                    puts[putCount] = valueOf(A0);
                }
                putCount++;
            } else if (wanted == 2) {
                write(A0, gifts.next());
            }
        }
    }

    /** Works functions out by the meaning: it does the deeds. */
    private static final class Worker {
        private static final int GOING = -1;
        private static final int VALUE = 0;
        private static final int STACK = 1;
        private static final int ZERO = 2;
        private static final int INDEX = 3;
        private static final int CUT = 4;

        // Two words of a frame are no slots; here they tell where to go on, and the frame before.
        private static final int BEHIND_LINKS = 2;
        // Between two turns or ends of calls deeds are done forwards only: far fewer than this.
        private static final int MOST_WORK = 1000000000;

        private Program program;
        private final Gifts gifts;
        private final int memoryBytes;
        private final int[] frames;
        private final int[] cells;
        private final int[] puts = new int[MOST_KEPT];
        private boolean hasWorked;
        private int outcome;
        private int hand;
        private int at;
        private int base;
        private int top;
        private int mostTurns;
        private int turns;
        private int mostBytes;
        private int putCount;
        private int gotCount;

        Worker(Program program, int memoryWords, Gifts gifts) {
            this.program = program;
            this.gifts = gifts;
            memoryBytes = 4 * memoryWords;
            frames = new int[memoryWords];
            cells = new int[memoryWords];
        }

        void drop() {
            hasWorked = false;
        }

        int fact(int what) {
            if (!hasWorked) {
                return NONE;
            }
            switch (what) {
                case 0: return outcome;
                case 1: return outcome == VALUE ? hand : 0;
                case 2: return turns;
                case 3: return mostBytes;
                case 4: return putCount;
                case 5: return gotCount;
                default: return NONE;
            }
        }

        int cellAt(int k) {
            return k >= 0 && k < cells.length ? cells[k] : 0;
        }

        private void changeCell(int k, int number) {
            if (k >= 0 && k < cells.length) {
                cells[k] = number;
            }
        }

        private int frameWord(int k) {
            return k >= 0 && k < frames.length ? frames[k] : 0;
        }

        private void changeFrameWord(int k, int number) {
            if (k >= 0 && k < frames.length) {
                frames[k] = number;
            }
        }

        private int placeOfSlot(int slot) {
            return base + BEHIND_LINKS + slot;
        }

        private int slotAt(int slot) {
            return frameWord(placeOfSlot(slot));
        }

        private void changeSlot(int slot, int number) {
            changeFrameWord(placeOfSlot(slot), number);
        }

        void begin(Program text, int turnsTold) {
            program = text;
            hasWorked = true;
            outcome = GOING;
            hand = 0;
            base = 0;
            top = 0;
            mostTurns = turnsTold;
            turns = 0;
            mostBytes = 0;
            putCount = 0;
            gotCount = 0;
            Arrays.fill(cells, 0);
        }

        int perform(int f, int a, int b) {
            int parameters = program.functionFact(f, Program.PARAMETERS);
            enter(f, NONE);
            if (outcome == GOING && parameters > 0) {
                changeSlot(0, a);
            }
            if (outcome == GOING && parameters > 1) {
                changeSlot(1, b);
            }
            for (int k = 0; k < MOST_WORK && outcome == GOING; k++) {
                doDeed();
            }
            return outcome;
        }

        private void takeTurn() {
            if (turns >= mostTurns) {
                outcome = CUT;
            } else {
                turns++;
            }
        }

        private void enter(int f, int goOnAt) {
            int words = program.functionFact(f, Program.FRAME) >> 2;
            if (4 * (top + words) + 8 > memoryBytes - program.limit) {
                outcome = STACK;
                return;
            }
            takeTurn();
            if (outcome != GOING) {
                return;
            }
            changeFrameWord(top, goOnAt);
            changeFrameWord(top + 1, base);
            base = top;
            top += words;
            mostBytes = Math.max(mostBytes, 4 * top);
            at = program.functionFact(f, Program.ENTRY);
        }

        private void callFunction(int f, int firstSlot) {
            int from = placeOfSlot(firstSlot);
            enter(f, at);
            for (int k = 0; k < program.functionFact(f, Program.PARAMETERS) && outcome == GOING; k++) {
                changeSlot(k, frameWord(from + k));
            }
        }

        private void leaveFunction() {
            int goOnAt = frameWord(base);
            top = base;
            base = frameWord(base + 1);
            if (goOnAt == NONE) {
                outcome = VALUE;
            } else {
                at = goOnAt;
            }
        }

        private void doDeed() {
            if (at < 0 || at >= program.deedCount || at >= Program.MOST_DEEDS) {
                outcome = CUT;
                return;
            }
            int deed = program.deeds[at];
            int x = program.xs[at];
            int y = program.ys[at];
            at++;
            switch (deed) {
                case Program.LEAVE: leaveFunction(); break;
                case Program.NUMBER: hand = x; break;
                case Program.LOCAL: hand = slotAt(x); break;
                case Program.KEEP: changeSlot(x, hand); break;
                case Program.NEGATE: hand = -hand; break;
                case Program.NOT: hand = hand == 0 ? 1 : 0; break;
                case Program.FLIP: hand = ~hand; break;
                case Program.TRUTH: hand = hand != 0 ? 1 : 0; break;
                case Program.BINARY: join(x, slotAt(y)); break;
                case Program.CALL: callFunction(x, y); break;
                case Program.PUT: putHand(); break;
                case Program.GET: hand = gifts.numberAt(gotCount); gotCount++; break;
                case Program.TURN: takeTurn(); break;
                default:
                    if (deed >= Program.UNLESS && deed <= Program.JUMP) {
                        doJump(deed, x);
                    } else {
                        doPlace(deed, x, y);
                    }
                    break;
            }
        }

        private void doPlace(int deed, int x, int y) {
            switch (deed) {
                case Program.VARIABLE: hand = cellAt(program.firstCell(x)); break;
                case Program.STORE: changeCell(program.firstCell(x), hand); break;
                case Program.INDEX: index(x); break;
                case Program.FETCH:
                case Program.PEEK: hand = cellAt(hand); break;
                case Program.HOLD: changeSlot(y, hand); break;
                case Program.LAY: changeCell(slotAt(x), hand); break;
                default: break;
            }
        }

        private void index(int row) {
            if (hand < 0 || hand >= program.globalFact(row, Program.SIZE)) {
                outcome = INDEX;
            } else {
                hand += program.firstCell(row);
            }
        }

        private void doJump(int deed, int target) {
            boolean leads = deed == Program.JUMP || (deed == Program.UNLESS) == (hand == 0);
            if (leads) {
                at = target;
            }
            if (leads && deed == Program.EITHER) {
                hand = 1;
            }
        }

        private void putHand() {
            if (putCount < MOST_KEPT) {
                puts[putCount] = hand;
            }
            putCount++;
        }

        private void join(int sign, int left) {
            switch (sign) {
                case Tokens.PLUS: hand = left + hand; break;
                case Tokens.MINUS: hand = left - hand; break;
                case Tokens.TIMES: hand = left * hand; break;
                case Tokens.OVER:
                case Tokens.REST: divide(sign == Tokens.OVER, left); break;
                case Tokens.AND: hand = left & hand; break;
                case Tokens.OR: hand = left | hand; break;
                case Tokens.XOR: hand = left ^ hand; break;
                case Tokens.UP: hand = left << hand; break;
                case Tokens.DOWN: hand = left >> hand; break;
                default: hand = compares(sign, left, hand) ? 1 : 0; break;
            }
        }

        private void divide(boolean whole, int left) {
            if (hand == 0) {
                outcome = ZERO;
            } else {
                hand = whole ? left / hand : left % hand;
            }
        }

        private static boolean compares(int sign, int left, int right) {
            switch (sign) {
                case Tokens.EQUAL: return left == right;
                case Tokens.UNEQUAL: return left != right;
                case Tokens.LESS: return left < right;
                case Tokens.AT_MOST: return left <= right;
                case Tokens.GREATER: return left > right;
                default: return left >= right;
            }
        }
    }

    /** Spells words of the processor for people. */
    private static final class Shower {
        private static final String HEX = "0123456789abcdef";

        private final StringBuilder text = new StringBuilder();

        int byteAt(int k) {
            return k >= 0 && k < text.length() ? text.charAt(k) : NONE;
        }

        int spell(int word) {
            int kind = Instruction.kindOf(word);
            text.setLength(0);
            addName(kind);
            if (kind == Instruction.ILLEGAL) {
                addHex(word);
            } else if (kind < Instruction.FENCE) {
                text.append(' ');
                addOperands(kind, word);
            }
            return text.length();
        }

        private void addName(int kind) {
            int from = kind * Instruction.NAME_WIDTH;
            for (int k = from; k < from + Instruction.NAME_WIDTH && k < Instruction.NAMES.length(); k++) {
                if (k >= 0 && Instruction.NAMES.charAt(k) != ' ') {
                    text.append(Instruction.NAMES.charAt(k));
                }
            }
        }

        private void addHex(int word) {
            text.append(" 0x");
            for (int shift = 28; shift >= 0; shift -= 4) {
                text.append(HEX.charAt(word >>> shift & 15));
            }
        }

        private void addOperands(int kind, int word) {
            int number = Instruction.number(word, kind);
            int target = Instruction.target(word);
            int first = Instruction.first(word);
            int second = Instruction.second(word);
            if (kind == Instruction.LUI || kind == Instruction.AUIPC) {
                addPair(target, number >>> 12);
            } else if (kind == Instruction.JAL) {
                addPair(target, number);
            } else if (kind == Instruction.JALR || kind >= Instruction.LB && kind <= Instruction.LHU) {
                addReach(target, number, first);
            } else if (kind >= Instruction.SB && kind <= Instruction.SW) {
                addReach(second, number, first);
            } else if (kind <= Instruction.BGEU) {
                addRegister(first);
                text.append(", ");
                addPair(second, number);
            } else if (kind <= Instruction.SRAI) {
                addRegister(target);
                text.append(", ");
                addPair(first, number);
            } else {
                addRegister(target);
                text.append(", ");
                addRegister(first);
                text.append(", ");
                addRegister(second);
            }
        }

        private void addRegister(int k) {
            text.append('x');
            text.append(k);
        }

        private void addPair(int register, int number) {
            addRegister(register);
            text.append(", ");
            text.append(number);
        }

        private void addReach(int register, int number, int from) {
            addPair(register, number);
            text.append('(');
            addRegister(from);
            text.append(')');
        }
    }
}
