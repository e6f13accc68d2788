/** Promises 21, 22: show, octet. */
public final class ShowTest {
    private static final Check CHECK = new Check();

    public static void main(String[] args) {
        plain();
        numbered();
        reaching();
        jumping();
        others();
        illegal();
        octets();
        CHECK.end();
    }

    private static void due(int word, String text) {
        CHECK.same(Integer.toHexString(word), Check.shown(word), text);
    }

    private static void plain() {
        String[] names = {"add", "sll", "slt", "sltu", "xor", "srl", "or", "and"};
        for (int k = 0; k < 8; k++) {
            due(0x33 | k << 12 | 1 << 7 | 2 << 15 | 31 << 20, names[k] + " x1, x2, x31");
            due(0x02000033 | k << 12, "word 0x0200" + k + "033");
        }
        due(0x40000033 | 10 << 7 | 5 << 15 | 10 << 20, "sub x10, x5, x10");
        due(0x40005033, "sra x0, x0, x0");
        for (int k : new int[] {1, 2, 3, 4, 6, 7}) {
            due(0x40000033 | k << 12, "word 0x4000" + k + "033");
        }
        due(0x80000033, "word 0x80000033");
    }

    private static void numbered() {
        String[] names = {"addi", "", "slti", "sltiu", "xori", "", "ori", "andi"};
        for (int k : new int[] {0, 2, 3, 4, 6, 7}) {
            due(0x13 | k << 12 | 9 << 7 | 8 << 15 | 2047 << 20, names[k] + " x9, x8, 2047");
            due(0x80000013 | k << 12 | 30 << 7 | 20 << 15, names[k] + " x30, x20, -2048");
            due(0xFFF00013 | k << 12, names[k] + " x0, x0, -1");
        }
        due(0x00001013 | 31 << 20, "slli x0, x0, 31");
        due(0x00005013 | 3 << 7 | 4 << 15, "srli x3, x4, 0");
        due(0x40005013 | 3 << 7 | 4 << 15 | 17 << 20, "srai x3, x4, 17");
        due(0x02001013, "word 0x02001013");
        due(0x40001013, "word 0x40001013");
        due(0x02005013, "word 0x02005013");
        due(0x42005013, "word 0x42005013");
        due(0xC0005013, "word 0xc0005013");
    }

    private static void reaching() {
        String[] loads = {"lb", "lh", "lw", null, "lbu", "lhu", null, null};
        String[] stores = {"sb", "sh", "sw", null, null, null, null, null};
        for (int k = 0; k < 8; k++) {
            int load = 0xFF010083 & ~0x7000 | k << 12;
            due(load, loads[k] == null ? "word 0xff01" + k + "083" : loads[k] + " x1, -16(x2)");
            int store = 0xFE112823 & ~0x7000 | k << 12;
            due(store, stores[k] == null ? "word 0xfe11" + k + "823" : stores[k] + " x1, -16(x2)");
        }
        due(0x7FF00003 | 31 << 15, "lb x0, 2047(x31)");
        due(0x7E002FA3, "sw x0, 2047(x0)");
        due(0x80002023, "sw x0, -2048(x0)");
        due(0x00008067, "jalr x0, 0(x1)");
        due(0xFFF08FE7, "jalr x31, -1(x1)");
        due(0x00009067, "word 0x00009067");
    }

    private static void jumping() {
        String[] names = {"beq", "bne", null, null, "blt", "bge", "bltu", "bgeu"};
        for (int k = 0; k < 8; k++) {
            int word = 0x00B50463 | k << 12;
            due(word, names[k] == null ? "word 0x00b5" + (k) + "463" : names[k] + " x10, x11, 8");
        }
        due(0xFE000EE3, "beq x0, x0, -4");
        due(0x80000063, "beq x0, x0, -4096");
        due(0x7E000FE3, "beq x0, x0, 4094");
        due(0x000000E3, "beq x0, x0, 2048");
        due(0x0000006F, "jal x0, 0");
        due(0x800000EF, "jal x1, -1048576");
        due(0x7FFFFF6F, "jal x30, 1048574");
        due(0x00100FEF, "jal x31, 2048");
        due(0x0020006F, "jal x0, 2");
        due(0x000FF06F, "jal x0, 1044480");
    }

    private static void others() {
        due(0x00000037, "lui x0, 0");
        due(0xFFFFFFB7, "lui x31, 1048575");
        due(0x80000537, "lui x10, 524288");
        due(0x00001097, "auipc x1, 1");
        due(0xFFFFF017, "auipc x0, 1048575");
        due(0x0000000F, "fence");
        due(0x0FF0000F, "fence");
        due(0xFFFF8F8F, "fence");
        due(0x0000100F, "word 0x0000100f");
        due(0x00000073, "ecall");
        due(0x00100073, "ebreak");
        due(0x00200073, "word 0x00200073");
        due(0x000000F3, "word 0x000000f3");
        due(0x00008073, "word 0x00008073");
        due(0x30200073, "word 0x30200073");
        due(0x00001073, "word 0x00001073");
    }

    private static void illegal() {
        due(0, "word 0x00000000");
        due(-1, "word 0xffffffff");
        due(0x12345678, "word 0x12345678");
        due(0x9ABCDEF0, "word 0x9abcdef0");
        for (int low = 0; low < 128; low++) {
            boolean known = "37 17 6f 67 63 03 23 13 33 0f 73".contains(String.format("%02x", low));
            if (!known) {
                due(low, String.format("word 0x%08x", low));
            }
        }
    }

    private static void octets() {
        PocketCompiler x = new PocketCompiler(256);
        CHECK.same("no text yet", x.octet(0), PocketCompiler.NONE);
        CHECK.same("bytes", x.show(0x00100073), 6);
        CHECK.same("first", x.octet(0), 'e');
        CHECK.same("last", x.octet(5), 'k');
        for (int none : new int[] {-1, 6, Integer.MIN_VALUE, Integer.MAX_VALUE}) {
            CHECK.same("none", x.octet(none), PocketCompiler.NONE);
        }
        CHECK.same("a shorter one", x.show(0x0F), 5);
        CHECK.same("last", x.octet(4), 'e');
        CHECK.same("none of the one before", x.octet(5), PocketCompiler.NONE);
    }
}
