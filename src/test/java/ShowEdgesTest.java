/** Promises 21, 22: each word's text with its registers and numbers at their edges; bytes ahead of it and behind it. */
public final class ShowEdgesTest {
    private static final Check CHECK = new Check();
    private static final int[] REGISTERS = {0, 1, 2, 9, 10, 15, 16, 30, 31};
    private static final int[] TWELVE = {0, 1, -1, 9, 10, -10, 31, 32, 63, 64, 1023, 1024, 2046, 2047, -2047, -2048};
    private static final int[] BRANCHES = {0, 2, -2, 4, -4, 30, 32, 62, 64, 2046, 2048, -2048, -2050, 4094, -4094, -4096};
    private static final int[] JUMPS = {0, 2, -2, 4, -4, 2046, 2048, 4094, 4096, -2048, -4096, 524288, 1048574, -1048574, -1048576};
    private static final int[] UPPER = {0, 1, 9, 10, 4095, 4096, 0x7FFFF, 0x80000, 0xFFFFE, 0xFFFFF};

    public static void main(String[] args) {
        threeRegisters();
        numbered();
        shifts();
        reaching();
        branches();
        jumps();
        upper();
        alone();
        illegal();
        octets();
        CHECK.end();
    }

    private static void due(int word, String text) {
        PocketCompiler x = new PocketCompiler(256);
        CHECK.same("bytes of " + text, x.show(word), text.length());
        for (int k = 0; k < text.length(); k++) {
            CHECK.same("byte " + k + " of " + text, x.octet(k), text.charAt(k));
        }
        CHECK.same("ahead of " + text, x.octet(-1), PocketCompiler.NONE);
        CHECK.same("behind " + text, x.octet(text.length()), PocketCompiler.NONE);
    }

    private static void threeRegisters() {
        Object[][] forms = {{"add", 0}, {"sub", 0x40000000}, {"sll", 0x1000}, {"slt", 0x2000}, {"sltu", 0x3000}, {"xor", 0x4000},
            {"srl", 0x5000}, {"sra", 0x40005000}, {"or", 0x6000}, {"and", 0x7000}};
        for (Object[] form : forms) {
            for (int a : REGISTERS) {
                for (int b : REGISTERS) {
                    int c = 31 - a;
                    due(0x33 | (int) form[1] | a << 7 | b << 15 | c << 20, form[0] + " x" + a + ", x" + b + ", x" + c);
                }
            }
        }
    }

    private static void numbered() {
        String[] names = {"addi", null, "slti", "sltiu", "xori", null, "ori", "andi"};
        for (int low = 0; low < 8; low++) {
            for (int n : TWELVE) {
                if (names[low] != null) {
                    due(0x13 | low << 12 | 31 << 7 | n << 20, names[low] + " x31, x0, " + n);
                    due(0x13 | low << 12 | 31 << 15 | n << 20, names[low] + " x0, x31, " + n);
                }
            }
        }
    }

    private static void shifts() {
        for (int n : new int[] {0, 1, 9, 10, 15, 16, 30, 31}) {
            due(0x1013 | 7 << 7 | 8 << 15 | n << 20, "slli x7, x8, " + n);
            due(0x5013 | 7 << 7 | 8 << 15 | n << 20, "srli x7, x8, " + n);
            due(0x40005013 | 7 << 7 | 8 << 15 | n << 20, "srai x7, x8, " + n);
        }
    }

    private static void reaching() {
        String[] loads = {"lb", "lh", "lw", null, "lbu", "lhu"};
        String[] stores = {"sb", "sh", "sw"};
        for (int n : TWELVE) {
            for (int low = 0; low < loads.length; low++) {
                if (loads[low] != null) {
                    due(0x03 | low << 12 | 31 << 7 | 1 << 15 | n << 20, loads[low] + " x31, " + n + "(x1)");
                }
            }
            for (int low = 0; low < stores.length; low++) {
                due(0x23 | low << 12 | 1 << 15 | 31 << 20 | (n & 31) << 7 | n >> 5 << 25, stores[low] + " x31, " + n + "(x1)");
                due(0x23 | low << 12 | 31 << 15 | (n & 31) << 7 | n >> 5 << 25, stores[low] + " x0, " + n + "(x31)");
            }
            due(0x67 | 31 << 7 | 1 << 15 | n << 20, "jalr x31, " + n + "(x1)");
            due(0x67 | 31 << 15 | n << 20, "jalr x0, " + n + "(x31)");
        }
    }

    private static void branches() {
        String[] names = {"beq", "bne", null, null, "blt", "bge", "bltu", "bgeu"};
        for (int low = 0; low < 8; low++) {
            for (int n : BRANCHES) {
                if (names[low] != null) {
                    due(0x63 | low << 12 | 31 << 15 | 1 << 20 | (n >> 11 & 1) << 7 | (n >> 1 & 15) << 8 | (n >> 5 & 63) << 25
                        | n >> 12 << 31, names[low] + " x31, x1, " + n);
                }
            }
        }
    }

    private static void jumps() {
        for (int n : JUMPS) {
            for (int rd : REGISTERS) {
                due(0x6F | rd << 7 | (n >> 12 & 255) << 12 | (n >> 11 & 1) << 20 | (n >> 1 & 1023) << 21 | n >> 20 << 31,
                    "jal x" + rd + ", " + n);
            }
        }
    }

    /** "its upper 20 bits without sign". */
    private static void upper() {
        for (int n : UPPER) {
            for (int rd : REGISTERS) {
                due(0x37 | rd << 7 | n << 12, "lui x" + rd + ", " + n);
                due(0x17 | rd << 7 | n << 12, "auipc x" + rd + ", " + n);
            }
        }
    }

    /** "fence, ecall, ebreak: the name alone". */
    private static void alone() {
        for (int free : new int[] {0, 0x0FF00000, 0x00000F80, 0x000F8000, 0xFFFF8F80, 0x80000000}) {
            due(0x0F | free, "fence");
        }
        due(0x73, "ecall");
        due(0x100073, "ebreak");
    }

    /** "word, a blank, 0x and 8 digits 0 .. 9 a .. f". */
    private static void illegal() {
        for (int word : new int[] {0, 1, 0x72, 0x74, -1, 0x00200073, 0x00100072, 0x80000073, 0x9ABCDEF0, 0x00ABCDEE, 0x0000100F, 0x3003,
            0x6003, 0x7003, 0x3023, 0x7023, 0x2063, 0x3063, 0x1067, 0x7067, 0x02000033, 0x80000033, 0x40001033, 0x02001013,
            0x02005013, 0x42005013, Integer.MAX_VALUE, Integer.MIN_VALUE}) {
            due(word, String.format("word 0x%08x", word));
        }
    }

    /** Promise 22: "Byte k of the latest TEXT of show(); NONE without". */
    private static void octets() {
        PocketCompiler x = new PocketCompiler(256);
        for (int k : new int[] {-1, 0, 1, Integer.MIN_VALUE, Integer.MAX_VALUE}) {
            CHECK.same("none yet", x.octet(k), PocketCompiler.NONE);
        }
        CHECK.same("the longest", x.show(0x80000013 | 30 << 7 | 20 << 15 | 3 << 12), 21);
        CHECK.same("its last byte", x.octet(20), '8');
        CHECK.same("behind it", x.octet(21), PocketCompiler.NONE);
        CHECK.same("a shorter one", x.show(0x73), 5);
        CHECK.same("its last byte", x.octet(4), 'l');
        for (int k : new int[] {-1, 5, 6, 20, 21, Integer.MIN_VALUE, Integer.MAX_VALUE}) {
            CHECK.same("none", x.octet(k), PocketCompiler.NONE);
        }
        x.load();
        x.step();
        CHECK.same("the latest one still", x.octet(0), 'e');
    }
}
