import java.util.NoSuchElementException;
import java.util.Random;

/** Terms 3, and promises 12 to 20, 27: words, addresses, numbers and calls at their edges. */
public final class ProcessorEdgesTest {
    private static final Check CHECK = new Check();
    private static final int LEAST = Integer.MIN_VALUE;
    private static final int MOST = Integer.MAX_VALUE;
    private static final int ECALL = 0x73;
    private static final int EBREAK = 0x100073;
    private static final int NOP = 0x13;
    private static final int HERE = 256;
    private static final int[] EDGES = {0, 1, 2, 31, 32, 33, -1, -2, -31, -32, -33, MOST, MOST - 1, LEAST, LEAST + 1,
        0x55555555, 0xAAAAAAAA, 0x0000FFFF, 0xFFFF0000};
    // The bits that the manual tells of each instruction: which, and what they are.
    private static final Object[][] WORDS = {{"lui", 0x7F, 0x37}, {"auipc", 0x7F, 0x17}, {"jal", 0x7F, 0x6F},
        {"jalr", 0x707F, 0x67}, {"beq", 0x707F, 0x63}, {"bne", 0x707F, 0x1063}, {"blt", 0x707F, 0x4063},
        {"bge", 0x707F, 0x5063}, {"bltu", 0x707F, 0x6063}, {"bgeu", 0x707F, 0x7063}, {"lb", 0x707F, 0x03},
        {"lh", 0x707F, 0x1003}, {"lw", 0x707F, 0x2003}, {"lbu", 0x707F, 0x4003}, {"lhu", 0x707F, 0x5003},
        {"sb", 0x707F, 0x23}, {"sh", 0x707F, 0x1023}, {"sw", 0x707F, 0x2023}, {"addi", 0x707F, 0x13},
        {"slti", 0x707F, 0x2013}, {"sltiu", 0x707F, 0x3013}, {"xori", 0x707F, 0x4013}, {"ori", 0x707F, 0x6013},
        {"andi", 0x707F, 0x7013}, {"slli", 0xFE00707F, 0x1013}, {"srli", 0xFE00707F, 0x5013},
        {"srai", 0xFE00707F, 0x40005013}, {"add", 0xFE00707F, 0x33}, {"sub", 0xFE00707F, 0x40000033},
        {"sll", 0xFE00707F, 0x1033}, {"slt", 0xFE00707F, 0x2033}, {"sltu", 0xFE00707F, 0x3033},
        {"xor", 0xFE00707F, 0x4033}, {"srl", 0xFE00707F, 0x5033}, {"sra", 0xFE00707F, 0x40005033},
        {"or", 0xFE00707F, 0x6033}, {"and", 0xFE00707F, 0x7033}, {"fence", 0x707F, 0x0F}, {"ecall", -1, 0x73},
        {"ebreak", -1, 0x100073}};

    public static void main(String[] args) {
        bitsOfWords();
        arithmetic();
        addressesOfLoads();
        addressesOfStores();
        addressesGoRound();
        whereJumpsLead();
        whereBranchesLead();
        programCounters();
        zeroStaysZero();
        stepsThatStop();
        services();
        putsThatAreKept();
        stepsAreCounted();
        runs();
        starts();
        results();
        registers();
        memories();
        counts();
        CHECK.end();
    }

    private static String nameOf(int word) {
        String name = "word";
        for (Object[] w : WORDS) {
            if ((word & (int) w[1]) == (int) w[2]) {
                name = (String) w[0];
            }
        }
        return name;
    }

    /** "the bits that it tells being just so; every other word is ILLEGAL": each bit of each word turned round. */
    private static void bitsOfWords() {
        Random random = new Random(7);
        for (Object[] w : WORDS) {
            for (int variant = 0; variant < 4; variant++) {
                int free = ~(int) w[1] & new int[] {0, -1, random.nextInt(), random.nextInt()}[variant];
                int word = (int) w[2] | free;
                legality(word);
                for (int bit = 0; bit < 32; bit++) {
                    legality(word ^ 1 << bit);
                }
            }
        }
        for (int low = 0; low < 128; low++) {
            for (int middle = 0; middle < 8; middle++) {
                legality(low | middle << 12);
            }
        }
        for (int high = 0; high < 128; high++) {
            for (int middle = 0; middle < 8; middle++) {
                legality(0x33 | middle << 12 | high << 25);
                legality(0x13 | middle << 12 | high << 25);
            }
        }
    }

    private static void legality(int word) {
        String due = nameOf(word);
        String text = Check.shown(word);
        CHECK.same(Integer.toHexString(word), text.contains(" ") ? text.substring(0, text.indexOf(' ')) : text, due);
        PocketCompiler x = new PocketCompiler(256);
        x.poke(HERE, word);
        x.set(32, HERE);
        int status = x.step();
        CHECK.same("ILLEGAL " + Integer.toHexString(word), status == 2 ? 1 : 0, due.equals("word") ? 1 : 0);
        CHECK.same("HALTED " + Integer.toHexString(word), status == 1 ? 1 : 0, due.equals("ebreak") ? 1 : 0);
        CHECK.same("it counts", x.count(6), 1);
        if (due.equals("fence") || due.equals("word") || due.equals("ebreak")) {
            for (int k = 0; k < 32; k++) {
                CHECK.same("it does nothing", x.register(k), 0);
            }
            CHECK.same("PC", x.register(32), due.equals("fence") ? HERE + 4 : HERE);
        }
    }

    private static PocketCompiler stepped(int word, int x1, int x2) {
        PocketCompiler x = new PocketCompiler(256);
        x.poke(HERE, word);
        x.set(1, x1);
        x.set(2, x2);
        x.set(3, 77);
        x.set(32, HERE);
        x.step();
        return x;
    }

    private static void becomes(String what, int word, int x1, int x2, long due) {
        PocketCompiler x = stepped(word | 3 << 7 | 1 << 15, x1, x2);
        CHECK.same(what + " of " + x1 + ", " + x2, x.register(3), (int) due);
        CHECK.same("PC", x.register(32), HERE + 4);
    }

    /** As the manual has them: 32 bits go round, shifts by the lowest 5 bits, with and without sign. */
    private static void arithmetic() {
        for (int a : EDGES) {
            for (int b : EDGES) {
                int r = 2 << 20;
                long ua = a & 0xFFFFFFFFL;
                long ub = b & 0xFFFFFFFFL;
                becomes("add", 0x33 | r, a, b, (long) a + b);
                becomes("sub", 0x40000033 | r, a, b, (long) a - b);
                becomes("sll", 0x1033 | r, a, b, ua << (b & 31));
                becomes("slt", 0x2033 | r, a, b, a < b ? 1 : 0);
                becomes("sltu", 0x3033 | r, a, b, ua < ub ? 1 : 0);
                becomes("xor", 0x4033 | r, a, b, a ^ b);
                becomes("srl", 0x5033 | r, a, b, ua >> (b & 31));
                becomes("sra", 0x40005033 | r, a, b, (long) a >> (b & 31));
                becomes("or", 0x6033 | r, a, b, a | b);
                becomes("and", 0x7033 | r, a, b, a & b);
            }
            for (int n : new int[] {0, 1, 2047, -1, -2047, -2048}) {
                int i = n << 20;
                becomes("addi", 0x13 | i, a, 0, (long) a + n);
                becomes("slti", 0x2013 | i, a, 0, a < n ? 1 : 0);
                becomes("sltiu", 0x3013 | i, a, 0, (a & 0xFFFFFFFFL) < (n & 0xFFFFFFFFL) ? 1 : 0);
                becomes("xori", 0x4013 | i, a, 0, a ^ n);
                becomes("ori", 0x6013 | i, a, 0, a | n);
                becomes("andi", 0x7013 | i, a, 0, a & n);
            }
            for (int n : new int[] {0, 1, 30, 31}) {
                becomes("slli", 0x1013 | n << 20, a, 0, (a & 0xFFFFFFFFL) << n);
                becomes("srli", 0x5013 | n << 20, a, 0, (a & 0xFFFFFFFFL) >> n);
                becomes("srai", 0x40005013 | n << 20, a, 0, (long) a >> n);
            }
        }
        for (int upper : new int[] {0, 1, 0x7FFFF, 0x80000, 0xFFFFF}) {
            CHECK.same("lui", stepped(0x1B7 | upper << 12, 0, 0).register(3), upper << 12);
            CHECK.same("auipc", stepped(0x197 | upper << 12, 0, 0).register(3), (upper << 12) + HERE);
        }
    }

    private static final int[] PLACES = {0, 1, 2, 3, 4, 5, 1015, 1016, 1017, 1018, 1019, 1020, 1021, 1022, 1023, 1024, 1025,
        1026, 1027, 1028, -1, -2, -3, -4, -5, LEAST, LEAST + 1, LEAST + 2, LEAST + 4, LEAST + 1020, MOST, MOST - 1, MOST - 3};

    /** "its address is no multiple of its size, or not all of it in the MEMORY". */
    private static boolean isReached(int address, int size) {
        long place = address & 0xFFFFFFFFL;
        return place % size == 0 && place + size <= 1024;
    }

    private static int lookedFor(int word, int low) {
        switch (low) {
            case 0: return (byte) word;
            case 1: return (short) word;
            case 2: return word;
            case 4: return word & 0xFF;
            default: return word & 0xFFFF;
        }
    }

    private static void addressesOfLoads() {
        int[] lows = {0, 1, 2, 4, 5};
        int[] sizes = {1, 2, 4, 1, 2};
        for (int k = 0; k < lows.length; k++) {
            for (int address : PLACES) {
                for (int word : new int[] {0x80FF7F01, 0x01807FFF}) {
                    load(lows[k], sizes[k], address, word);
                }
            }
        }
    }

    private static void load(int low, int size, int address, int word) {
        PocketCompiler x = new PocketCompiler(256);
        x.poke(HERE, 0x00008183 | low << 12);
        x.poke(0, word);
        x.poke(4, word);
        x.poke(1012, word);
        x.poke(1016, word);
        x.poke(1020, word);
        x.set(1, address);
        x.set(3, 77);
        x.set(32, HERE);
        boolean isFine = isReached(address, size);
        String what = "load " + low + " at " + address;
        CHECK.same(what, x.step(), isFine ? 0 : 3);
        CHECK.same(what + " x3", x.register(3), isFine ? lookedFor(word >>> 8 * (address & 3), low) : 77);
        CHECK.same(what + " PC", x.register(32), isFine ? HERE + 4 : HERE);
        CHECK.same(what + " counts", x.count(6), 1);
        CHECK.same(what + " x1", x.register(1), address);
    }

    private static void addressesOfStores() {
        for (int low = 0; low <= 2; low++) {
            for (int address : PLACES) {
                store(low, 1 << low, address);
            }
        }
    }

    private static void store(int low, int size, int address) {
        PocketCompiler x = new PocketCompiler(256);
        int[] words = {0, 4, 1012, 1016, 1020};
        x.poke(HERE, 0x00208023 | low << 12);
        for (int at : words) {
            x.poke(at, 0x11223344);
        }
        x.set(1, address);
        x.set(2, 0x8899AABB);
        x.set(32, HERE);
        boolean isFine = isReached(address, size);
        String what = "store " + low + " at " + address;
        CHECK.same(what, x.step(), isFine ? 0 : 3);
        CHECK.same(what + " PC", x.register(32), isFine ? HERE + 4 : HERE);
        CHECK.same(what + " counts", x.count(6), 1);
        long mask = (1L << 8 * size) - 1 << 8 * (address & 3);
        for (int at : words) {
            int due = 0x11223344;
            if (isFine && (address & ~3) == at) {
                due = (int) (due & ~mask | (0x8899AABBL << 8 * (address & 3)) & mask);
            }
            CHECK.same(what + " word " + at, x.word(at), due);
        }
    }

    /** "(Addresses go round by 32 bits and have no sign.)" */
    private static void addressesGoRound() {
        // lw x3, n(x1): base and number meet in the memory, round the end of all addresses.
        int[][] fine = {{-4, 4}, {-4, 1024}, {-2048, 2047}, {1024, -4}, {3068, -2048}, {-1020, 2040}, {-2047, 2047}};
        for (int[] f : fine) {
            boolean isFine = isReached(f[0] + f[1], 4);
            PocketCompiler x = stepped(0x0000A183 | f[1] << 20, f[0], 0);
            CHECK.same("lw " + f[1] + " from " + f[0], x.count(5), isFine ? 0 : 3);
            PocketCompiler y = stepped(0x0020A023 | (f[1] & 31) << 7 | f[1] >> 5 << 25, f[0], 5);
            CHECK.same("sw " + f[1] + " from " + f[0], y.count(5), isFine ? 0 : 3);
            if (isFine) {
                CHECK.same("is there", y.word(f[0] + f[1]), 5);
            }
        }
        CHECK.same("-4 and 4", stepped(0x0040A183, -4, 0).count(5), 0);
        CHECK.same("-4 and 0", stepped(0x0000A183, -4, 0).count(5), 3);
        CHECK.same("4 and -4", stepped(0xFFC0A183, 4, 0).count(5), 0);
        CHECK.same("0 and -4", stepped(0xFFC0A183, 0, 0).count(5), 3);
        CHECK.same("most and 1", stepped(0x0010A183, MOST, 0).count(5), 3);
        // Behind the last byte of the memory, and the byte itself.
        CHECK.same("lb at 1023", stepped(0x00008183, 1023, 0).count(5), 0);
        CHECK.same("lb at 1024", stepped(0x00008183, 1024, 0).count(5), 3);
        CHECK.same("lb at 0", stepped(0x00108183, -1, 0).count(5), 0);
        CHECK.same("lb at -1", stepped(0xFFF08183, 0, 0).count(5), 3);
    }

    private static int jal(int rd, int distance) {
        return 0x6F | rd << 7 | (distance >> 12 & 255) << 12 | (distance >> 11 & 1) << 20 | (distance >> 1 & 1023) << 21
            | distance >> 20 << 31;
    }

    private static void leads(String what, PocketCompiler x, int target, int link) {
        boolean isFine = (target & 3) == 0;
        CHECK.same(what + " to " + target, x.count(5), isFine ? 0 : 3);
        CHECK.same(what + " PC", x.register(32), isFine ? target : HERE);
        CHECK.same(what + " link", x.register(3), isFine ? HERE + 4 : link);
        boolean isThere = target >= 0 && target < 1024;
        if (isFine && !isThere) {
            CHECK.same(what + ": the next step is bad", x.step(), 3);
            CHECK.same(what + " PC", x.register(32), target);
            CHECK.same(what + " link", x.register(3), HERE + 4);
        }
    }

    /** "of a jump, or a branch that is taken: where it leads is no multiple of 4". */
    private static void whereJumpsLead() {
        for (int distance : new int[] {0, 2, 4, 6, 8, -2, -4, -6, -8, -256, -258, -260, 764, 766, 768, 2046, 2048, 2050, 4094,
            4096, -2048, -2050, -4096, 1048574, 1048572, -1048576, -1048574}) {
            leads("jal", stepped(jal(3, distance), 0, 0), HERE + distance, 77);
        }
        for (int base : new int[] {0, 1, 2, 3, 4, 5, 1020, 1021, 1022, 1023, 1024, -1, -2, -3, -4, LEAST, MOST}) {
            for (int number : new int[] {0, 1, 2, 3, 4, -1, -2, -4, 2047, -2048}) {
                PocketCompiler x = stepped(0x000081E7 | number << 20, base, 0);
                leads("jalr " + number + "(" + base + ")", x, base + number & ~1, 77);
            }
        }
    }

    private static void whereBranchesLead() {
        int[][] pairs = {{5, 5}, {5, 6}, {6, 5}, {-1, 0}, {0, -1}, {LEAST, MOST}, {MOST, LEAST}, {LEAST, 0}, {0, LEAST}};
        int[] lows = {0, 1, 4, 5, 6, 7};
        for (int[] p : pairs) {
            long ua = p[0] & 0xFFFFFFFFL;
            long ub = p[1] & 0xFFFFFFFFL;
            boolean[] taken = {p[0] == p[1], p[0] != p[1], p[0] < p[1], p[0] >= p[1], ua < ub, ua >= ub};
            for (int k = 0; k < lows.length; k++) {
                for (int distance : new int[] {0, 2, 4, 6, 8, -2, -4, -256, -260, 764, 768, 2046, 2048, 4094, 4092, -4096, -4094}) {
                    int word = 0x00208063 | lows[k] << 12 | (distance >> 11 & 1) << 7 | (distance >> 1 & 15) << 8
                        | (distance >> 5 & 63) << 25 | distance >> 12 << 31;
                    PocketCompiler x = stepped(word, p[0], p[1]);
                    boolean isBad = taken[k] && (distance & 3) != 0;
                    String what = "branch " + lows[k] + " of " + p[0] + ", " + p[1] + " by " + distance;
                    CHECK.same(what, x.count(5), isBad ? 3 : 0);
                    CHECK.same(what, x.register(32), isBad ? HERE : taken[k] ? HERE + distance : HERE + 4);
                }
            }
        }
    }

    /** "PC is no multiple of 4, or not in the MEMORY". */
    private static void programCounters() {
        for (int words : new int[] {256, 4096}) {
            int end = 4 * words;
            for (int pc : new int[] {0, 4, end - 8, end - 4}) {
                PocketCompiler x = new PocketCompiler(words);
                x.poke(pc, NOP);
                x.set(32, pc);
                CHECK.same("PC " + pc, x.step(), 0);
                CHECK.same("goes on", x.register(32), pc + 4);
            }
            for (int pc : new int[] {1, 2, 3, 5, end - 1, end - 2, end - 3, end, end + 4, -1, -2, -3, -4, LEAST, MOST, MOST - 3,
                LEAST + 4}) {
                PocketCompiler x = new PocketCompiler(words);
                x.set(32, pc);
                CHECK.same("bad PC " + pc, x.step(), 3);
                CHECK.same("PC stays", x.register(32), pc);
                CHECK.same("it counts", x.count(6), 1);
                CHECK.same("no more", x.step(), 3);
                CHECK.same("it counts no more", x.count(6), 1);
            }
            PocketCompiler x = new PocketCompiler(words);
            x.poke(end - 4, NOP);
            x.set(32, end - 4);
            CHECK.same("the last word, then bad", x.run(10), 2);
            CHECK.same("bad", x.count(5), 3);
            CHECK.same("PC", x.register(32), end);
        }
    }

    /** "registers x0 (always 0)": whatever writes to it. */
    private static void zeroStaysZero() {
        int[] words = {0xFFFFF037, 0xFFFFF017, jal(0, 8), 0x00008067, 0x00008003, 0x00009003, 0x0000A003, 0x0000C003, 0x0000D003,
            0x00108013, 0x0010A013, 0xFFF0B013, 0x0FF0C013, 0x0FF0E013, 0x0FF0F013, 0x00009013, 0x0000D013, 0x4000D013, 0x00208033,
            0x40208033, 0x00209033, 0x0020A033, 0x0020B033, 0x0020C033, 0x0020D033, 0x4020D033, 0x0020E033, 0x0020F033};
        for (int word : words) {
            PocketCompiler x = stepped(word, HERE, 7);
            CHECK.same("status of " + Integer.toHexString(word), x.count(5), 0);
            CHECK.same("x0 behind " + Integer.toHexString(word), x.register(0), 0);
        }
        PocketCompiler x = new PocketCompiler(256);
        x.set(0, 5);
        CHECK.same("set", x.register(0), 0);
        x.set(0, LEAST);
        CHECK.same("set", x.register(0), 0);
    }

    /** "A step that is HALTED, ILLEGAL or BAD counts, but changes nothing but the STATUS." */
    private static void stepsThatStop() {
        int[][] words = {{EBREAK, 1}, {0, 2}, {-1, 2}, {0x1073, 2}, {0x00002003 | 3 << 7 | 1 << 15, 3}, {0x0020A023, 3},
            {0x00208023, 3}, {jal(3, 2), 3}, {0x000081E7, 3}, {0x00000163, 3}};
        for (int[] w : words) {
            PocketCompiler x = new PocketCompiler(256);
            for (int k = 1; k < 32; k++) {
                x.set(k, 4098 + k * 10000);
            }
            x.poke(HERE, w[0]);
            x.poke(1020, 9);
            x.give(5);
            x.set(32, HERE);
            CHECK.same("stops " + Integer.toHexString(w[0]), x.step(), w[1]);
            for (int k = 1; k < 32; k++) {
                CHECK.same("register " + k, x.register(k), 4098 + k * 10000);
            }
            CHECK.same("PC", x.register(32), HERE);
            for (int k = 0; k < 256; k++) {
                CHECK.same("word " + k, x.word(4 * k), k == HERE / 4 ? w[0] : k == 255 ? 9 : 0);
            }
            CHECK.same("STATUS", x.count(5), w[1]);
            CHECK.same("STEPS", x.count(6), 1);
            CHECK.same("PUT", x.count(7), 0);
            CHECK.same("GIVEN", x.count(8), 1);
        }
    }

    /** "if A7 is 1, A0 is PUT; if it is 2, A0 becomes the next number GIVEN (0 behind the last one); else nothing". */
    private static void services() {
        for (int service : new int[] {0, 1, 2, 3, 4, -1, -2, 257, 258, 0x10001, LEAST, LEAST + 1, LEAST + 2, MOST}) {
            PocketCompiler x = new PocketCompiler(256);
            x.poke(0, ECALL);
            x.give(42);
            x.set(17, service);
            x.set(10, 7);
            CHECK.same("RUNNING", x.step(), 0);
            CHECK.same("PC", x.register(32), 4);
            CHECK.same("A7", x.register(17), service);
            CHECK.same("A0 by " + service, x.register(10), service == 2 ? 42 : 7);
            CHECK.same("PUT by " + service, x.count(7), service == 1 ? 1 : 0);
            CHECK.same("GIVEN", x.count(8), 1);
        }
        for (int given : new int[] {0, 1, 2, 63, 64}) {
            PocketCompiler x = new PocketCompiler(256);
            for (int k = 0; k < given; k++) {
                CHECK.same("give", x.give(100 + k), k + 1);
            }
            x.poke(0, ECALL);
            x.set(17, 2);
            for (int k = 0; k < given + 2; k++) {
                x.set(10, 7);
                x.set(32, 0);
                x.step();
                CHECK.same("number " + k + " of " + given, x.register(10), k < given ? 100 + k : 0);
            }
        }
    }

    /** Promise 20: "the first 200 are kept"; "there is none such, or it is not kept". */
    private static void putsThatAreKept() {
        String text = "int f(int n) { int i; for (i = 0; i < n; i += 1) put(i * 3 - 7); }";
        for (int n : new int[] {0, 1, 2, 199, 200, 201, 250}) {
            PocketCompiler x = Check.loaded(256, text);
            x.start(0, n, 0);
            x.run(50000);
            x.run(50000);
            CHECK.same("PUT", x.count(7), n);
            for (int k = 0; k < 203; k++) {
                int at = k;
                if (k < n && k < 200) {
                    CHECK.same("put " + k, x.put(k), k * 3 - 7);
                } else {
                    CHECK.fails("put " + k + " of " + n, NoSuchElementException.class, () -> x.put(at));
                }
            }
            for (int none : new int[] {-1, LEAST, MOST, n}) {
                if (none != n || n >= 200) {
                    CHECK.fails("put " + none, NoSuchElementException.class, () -> x.put(none));
                }
            }
            // Since the latest START.
            x.start(0, 1, 0);
            CHECK.same("PUT", x.count(7), 0);
            CHECK.fails("put 0", NoSuchElementException.class, () -> x.put(0));
            x.run(50000);
            CHECK.same("PUT", x.count(7), 1);
            CHECK.same("put 0", x.put(0), -7);
            CHECK.fails("put 1", NoSuchElementException.class, () -> x.put(1));
        }
        // "or ever, without one": without a START; and set and poke are none.
        PocketCompiler x = new PocketCompiler(256);
        x.poke(0, ECALL);
        x.set(17, 1);
        for (int k = 0; k < 60; k++) {
            x.set(10, k);
            x.set(32, 0);
            x.step();
        }
        CHECK.same("PUT", x.count(7), 60);
        CHECK.same("first", x.put(0), 0);
        CHECK.same("last", x.put(59), 59);
    }

    /** Count 6: "STEPS since the latest START (or in all, without one)". */
    private static void stepsAreCounted() {
        PocketCompiler x = Check.loaded(256, "int f() { for (;;) ; }");
        for (int k = 0; k < 64; k++) {
            x.poke(4 * k, NOP);
        }
        CHECK.same("none", x.count(6), 0);
        x.step();
        CHECK.same("one", x.count(6), 1);
        CHECK.same("run", x.run(10), 10);
        CHECK.same("eleven", x.count(6), 11);
        x.set(32, 0);
        CHECK.same("set does not count anew", x.count(6), 11);
        CHECK.same("up to where there is nothing", x.run(100), 65);
        CHECK.same("ILLEGAL", x.count(5), 2);
        CHECK.same("all of them", x.count(6), 76);
        x.start(0, 0, 0);
        CHECK.same("anew", x.count(6), 0);
        x.run(7);
        CHECK.same("seven", x.count(6), 7);
        x.start(5, 0, 0);
        CHECK.same("no START, no change", x.count(6), 7);
        x.start(0, 0, 0);
        CHECK.same("anew", x.count(6), 0);
    }

    /** Promise 14: "STEPS, n at most, as long as it is RUNNING: how many"; "n is not 0 .. 50,000". */
    private static void runs() {
        PocketCompiler x = Check.loaded(256, "int f() { for (;;) ; } int g() { return 7; }");
        x.start(0, 0, 0);
        for (int n : new int[] {0, 1, 2, 49999, 50000}) {
            int before = x.count(6);
            CHECK.same("run " + n, x.run(n), n);
            CHECK.same("steps", x.count(6), before + n);
        }
        for (int n : new int[] {-1, -50000, 50001, LEAST, MOST}) {
            int before = x.count(6);
            CHECK.fails("run " + n, IllegalArgumentException.class, () -> x.run(n));
            CHECK.same("steps", x.count(6), before);
        }
        // g is done in 15 steps, the EBREAK being one of them.
        for (int n : new int[] {0, 1, 13, 14, 15, 16, 50000}) {
            x.start(1, 0, 0);
            CHECK.same("run " + n, x.run(n), Math.min(n, 15));
            CHECK.same("STATUS", x.count(5), n < 15 ? 0 : 1);
            CHECK.same("the rest", x.run(50000), 15 - Math.min(n, 15));
            CHECK.same("no more", x.run(50000), 0);
            CHECK.same("nor a step", x.step(), 1);
            CHECK.same("steps", x.count(6), 15);
        }
    }

    /** Promise 12: "false .. if there is no such function, or it has more than two parameters". */
    private static void starts() {
        String text = "int v; int a() { return 1; } int b(int p) { return p; } int c(int p, int q) { return p - q; } "
            + "int d(int p, int q, int r) { return r; }";
        PocketCompiler x = Check.loaded(256, text);
        boolean[] due = {true, true, true, false, false};
        int[] result = {1, 30, -10};
        for (int f = 0; f < 5; f++) {
            CHECK.same("start " + f, x.start(f, 30, 40) ? 1 : 0, due[f] ? 1 : 0);
            if (due[f]) {
                CHECK.same("first argument", x.word(1020), 30);
                CHECK.same("second argument", x.word(1016), 40);
                CHECK.same("PC", x.register(32), x.function(f, 1));
                CHECK.same("SP", x.register(2), 1016);
                CHECK.same("T0", x.register(5), 1020);
                x.run(1000);
                CHECK.same("result", x.result(), result[f]);
            }
        }
        for (int f : new int[] {-1, 4, 5, LEAST, MOST}) {
            CHECK.no("start " + f, x.start(f, 1, 2));
        }
        // What there was is gone: memory, registers, numbers put, numbers used.
        PocketCompiler y = Check.loaded(256, text + " int e() { put(get()); return get(); }");
        y.give(5);
        y.give(6);
        for (int k = 0; k < 32; k++) {
            y.set(k, -k);
        }
        for (int k = 100; k < 256; k++) {
            y.poke(4 * k, k);
        }
        for (int again = 0; again < 2; again++) {
            CHECK.yes("start", y.start(4, LEAST, MOST));
            for (int k = 0; k < 32; k++) {
                CHECK.same("register " + k, y.register(k), k == 2 ? 1016 : k == 5 ? 1020 : 0);
            }
            for (int k = y.count(1); k < 254; k += 11) {
                CHECK.same("0 behind the code", y.word(4 * k), 0);
            }
            CHECK.same("0 ahead of the arguments", y.word(1012), 0);
            CHECK.same("second argument", y.word(1016), MOST);
            CHECK.same("first argument", y.word(1020), LEAST);
            CHECK.same("RUNNING", y.count(5), 0);
            CHECK.same("PUT", y.count(7), 0);
            y.run(1000);
            CHECK.same("the first number GIVEN", y.put(0), 5);
            CHECK.same("the second number GIVEN", y.result(), 6);
        }
        // The most code that there can be leaves 64 bytes: the arguments are behind it.
        PocketCompiler z = Check.loaded(256, "int f(){" + "1;".repeat(224) + "}");
        z.start(0, 8, 9);
        CHECK.same("the last word of code", z.word(4 * 239), 0x00008067);
        CHECK.same("behind it", z.word(4 * 240), 0);
        CHECK.same("second argument", z.word(1016), 9);
        CHECK.same("first argument", z.word(1020), 8);
    }

    /** Promise 15: "A0, if it is HALTED; else 0"; and count 10 likewise. */
    private static void results() {
        int[] words = {NOP, EBREAK, 0, jal(0, 2)};
        for (int status = 0; status < 4; status++) {
            PocketCompiler x = new PocketCompiler(256);
            x.poke(0, words[status]);
            x.set(10, 99);
            x.set(17, 98);
            CHECK.same("result ahead", x.result(), 0);
            CHECK.same("A7 ahead", x.count(10), 0);
            CHECK.same("step", x.step(), status);
            CHECK.same("STATUS", x.count(5), status);
            CHECK.same("result", x.result(), status == 1 ? 99 : 0);
            CHECK.same("A7", x.count(10), status == 1 ? 98 : 0);
            x.set(10, 55);
            CHECK.same("RUNNING by set", x.count(5), 0);
            CHECK.same("result", x.result(), 0);
            CHECK.same("A7", x.count(10), 0);
        }
    }

    /** Promises 16, 17: "k is not 0 .. 32". */
    private static void registers() {
        PocketCompiler x = new PocketCompiler(256);
        for (int k = 0; k <= 32; k++) {
            CHECK.same("register " + k, x.register(k), 0);
            x.set(k, 1000 + k);
            CHECK.same("register " + k, x.register(k), k == 0 ? 0 : 1000 + k);
        }
        for (int k = 1; k <= 32; k++) {
            CHECK.same("register " + k + " still", x.register(k), 1000 + k);
        }
        for (int k : new int[] {-1, -32, 33, 34, 64, LEAST, MOST}) {
            CHECK.fails("register " + k, IndexOutOfBoundsException.class, () -> x.register(k));
            CHECK.fails("set " + k, IndexOutOfBoundsException.class, () -> {
                x.set(k, 5);
                return null;
            });
        }
        // "it is RUNNING": whichever register, from whichever STATUS.
        for (int k = 0; k <= 32; k++) {
            for (int word : new int[] {EBREAK, 0, jal(0, 2)}) {
                PocketCompiler y = new PocketCompiler(256);
                y.poke(0, word);
                y.step();
                CHECK.yes("stopped", y.count(5) != 0);
                y.set(k, 0);
                CHECK.same("RUNNING by set " + k, y.count(5), 0);
            }
        }
    }

    /** Promises 18, 19: "it is no multiple of 4", "it is not in the MEMORY"; the first one listed is thrown. */
    private static void memories() {
        for (int words : new int[] {256, 257, 1024, 4095, 4096}) {
            PocketCompiler x = new PocketCompiler(words);
            int end = 4 * words;
            for (int address : new int[] {0, 4, end - 8, end - 4}) {
                CHECK.same("word", x.word(address), 0);
                x.poke(address, -1 - address);
                CHECK.same("word", x.word(address), -1 - address);
            }
            CHECK.same("the first one still", x.word(0), -1);
            for (int address : new int[] {end, end + 4, -4, -8, LEAST, MOST - 3, 1 << 30}) {
                CHECK.fails("word " + address, IndexOutOfBoundsException.class, () -> x.word(address));
                CHECK.fails("poke " + address, IndexOutOfBoundsException.class, () -> {
                    x.poke(address, 5);
                    return null;
                });
            }
            for (int address : new int[] {1, 2, 3, 5, end - 1, end - 2, end - 3, end + 1, end + 2, end + 3, -1, -2, -3, MOST,
                MOST - 1, LEAST + 1}) {
                CHECK.fails("word " + address, IllegalArgumentException.class, () -> x.word(address));
                CHECK.fails("poke " + address, IllegalArgumentException.class, () -> {
                    x.poke(address, 5);
                    return null;
                });
            }
            CHECK.same("the first one still", x.word(0), -1);
            CHECK.same("the last one still", x.word(end - 4), 3 - end);
        }
    }

    /** Promise 27: "NONE for another what". */
    private static void counts() {
        PocketCompiler x = new PocketCompiler(256);
        int[] due = {0, 2, 0, 0, 8, 0, 0, 0, 0, 256, 0};
        for (int what = 0; what <= 10; what++) {
            CHECK.same("count " + what, x.count(what), due[what]);
        }
        for (int what : new int[] {-1, -2, 11, 12, LEAST, MOST}) {
            CHECK.same("count " + what, x.count(what), PocketCompiler.NONE);
        }
    }
}
