/** Promises 6, 7, 8: the words that a text becomes. Expected lines are the document's, with register numbers. */
public final class CodeTest {
    private static final Check CHECK = new Check();
    // Two parameters p, q: slots 0 and 1; the first slot put by is 2, at -20 from FP.
    private static final String HEAD = "int v; int r[3]; int h(int a, int b, int c) { } int f(int p, int q) { ";
    private static final int F = 1;

    public static void main(String[] args) {
        wholeFunctions();
        numbers();
        places();
        operators();
        sets();
        calls();
        stats();
        loops();
        slots();
        divisions();
        farAddresses();
        farJumps();
        CHECK.end();
    }

    /** The body's words, the lines that are due being parted by '; '; hi(v), lo(v), hi(r), lo(r) are put in. */
    private static void due(String body, String lines) {
        PocketCompiler x = Check.loaded(4096, HEAD + body + " }");
        int from = x.function(F, 1) / 4 + 13;
        CHECK.same(body, listing(x, from, from + lines.split("; ").length), put(x, lines));
        int to = from + lines.split("; ").length;
        CHECK.same("end of " + body, listing(x, to, to + 5),
            "addi x10, x0, 0; lw x1, -4(x8); addi x2, x8, 0; lw x8, -8(x8); jalr x0, 0(x1)");
    }

    private static String listing(PocketCompiler x, int from, int to) {
        return Check.listing(x, from, to).trim().replace("\n", "; ");
    }

    private static String put(PocketCompiler x, String lines) {
        int v = x.global(0, 1);
        int r = x.global(1, 1);
        return lines.replace("hi(v)", "" + (v + 2048 >>> 12)).replace("lo(v)", "" + low(v))
            .replace("hi(r)", "" + (r + 2048 >>> 12)).replace("lo(r)", "" + low(r));
    }

    private static int low(int v) {
        return v - (v + 2048 >>> 12 << 12);
    }

    private static void wholeFunctions() {
        PocketCompiler x = Check.loaded(256, "int f() { }");
        CHECK.same("the least function", listing(x, 0, x.count(1)), "addi x17, x0, 0; ebreak; addi x2, x2, -8; "
            + "lui x6, 0; addi x6, x6, 64; bge x2, x6, 12; addi x17, x0, 1; ebreak; sw x1, 4(x2); sw x8, 0(x2); "
            + "addi x8, x2, 8; addi x10, x0, 0; lw x1, -4(x8); addi x2, x8, 0; lw x8, -8(x8); jalr x0, 0(x1)");
        PocketCompiler y = Check.loaded(1024, "int r[3]; int f(int a, int b, int c) { return c; }");
        CHECK.same("parameters", listing(y, 2, y.count(1)), "addi x2, x2, -20; lui x6, 0; addi x6, x6, 108; "
            + "bge x2, x6, 12; addi x17, x0, 1; ebreak; sw x1, 16(x2); sw x8, 12(x2); addi x8, x2, 20; "
            + "lw x6, 0(x5); sw x6, -12(x8); lw x6, -4(x5); sw x6, -16(x8); lw x6, -8(x5); sw x6, -20(x8); "
            + "lw x10, -20(x8); jal x0, 8; addi x10, x0, 0; lw x1, -4(x8); addi x2, x8, 0; lw x8, -8(x8); "
            + "jalr x0, 0(x1)");
        CHECK.same("LIMIT", y.count(4), 108);
        CHECK.same("the globals' address", y.global(0, 1), 96);
    }

    private static void numbers() {
        due("0;", "addi x10, x0, 0");
        due("2047;", "addi x10, x0, 2047");
        due("2048;", "lui x10, 1; addi x10, x10, -2048");
        due("4096;", "lui x10, 1; addi x10, x10, 0");
        due("2147483647;", "lui x10, 524288; addi x10, x10, -1");
        due("0xffffffff;", "addi x10, x0, -1");
        due("0xfffff800;", "addi x10, x0, -2048");
        due("0xfffff7ff;", "lui x10, 1048575; addi x10, x10, 2047");
        due("0x80000000;", "lui x10, 524288; addi x10, x10, 0");
        due("0x12345FFF;", "lui x10, 74566; addi x10, x10, -1");
        due("0xABCDEF;", "lui x10, 2749; addi x10, x10, -529");
        due("0xabcdef;", "lui x10, 2749; addi x10, x10, -529");
        due("'A';", "addi x10, x0, 65");
        due("get();", "addi x17, x0, 2; ecall");
    }

    private static void places() {
        due("p;", "lw x10, -12(x8)");
        due("q;", "lw x10, -16(x8)");
        due("v;", "lui x6, hi(v); lw x10, lo(v)(x6)");
        due("r[q];", "lw x10, -16(x8); lui x6, 0; addi x6, x6, 3; bltu x10, x6, 12; addi x17, x0, 3; ebreak; "
            + "slli x10, x10, 2; lui x6, hi(r); add x10, x10, x6; lw x10, lo(r)(x10)");
    }

    private static void operators() {
        String[][] signs = {{"+", "add x10, x5, x10"}, {"-", "sub x10, x5, x10"}, {"&", "and x10, x5, x10"},
            {"|", "or x10, x5, x10"}, {"^", "xor x10, x5, x10"}, {"<<", "sll x10, x5, x10"},
            {">>", "sra x10, x5, x10"}, {"<", "slt x10, x5, x10"}, {">", "slt x10, x10, x5"},
            {"<=", "slt x10, x10, x5; xori x10, x10, 1"}, {">=", "slt x10, x5, x10; xori x10, x10, 1"},
            {"==", "sub x10, x5, x10; sltiu x10, x10, 1"}, {"!=", "sub x10, x5, x10; sltu x10, x0, x10"}};
        for (String[] sign : signs) {
            due("p " + sign[0] + " q;", "lw x10, -12(x8); sw x10, -20(x8); lw x10, -16(x8); lw x5, -20(x8); " + sign[1]);
        }
        due("-p;", "lw x10, -12(x8); sub x10, x0, x10");
        due("!p;", "lw x10, -12(x8); sltiu x10, x10, 1");
        due("~p;", "lw x10, -12(x8); xori x10, x10, -1");
        due("-!p;", "lw x10, -12(x8); sltiu x10, x10, 1; sub x10, x0, x10");
        due("p && q;", "lw x10, -12(x8); bne x10, x0, 8; jal x0, 12; lw x10, -16(x8); sltu x10, x0, x10");
        due("p || q;",
            "lw x10, -12(x8); beq x10, x0, 12; addi x10, x0, 1; jal x0, 12; lw x10, -16(x8); sltu x10, x0, x10");
        due("p && q && 1;", "lw x10, -12(x8); bne x10, x0, 8; jal x0, 12; lw x10, -16(x8); sltu x10, x0, x10; "
            + "bne x10, x0, 8; jal x0, 12; addi x10, x0, 1; sltu x10, x0, x10");
        due("p ? q : 1;",
            "lw x10, -12(x8); bne x10, x0, 8; jal x0, 12; lw x10, -16(x8); jal x0, 8; addi x10, x0, 1");
        due("p * q;", "lw x10, -12(x8); sw x10, -20(x8); lw x10, -16(x8); lw x5, -20(x8); jal x28, 24");
        due("p / q;", "lw x10, -12(x8); sw x10, -20(x8); lw x10, -16(x8); lw x5, -20(x8); jal x28, 24");
        due("p % q;",
            "lw x10, -12(x8); sw x10, -20(x8); lw x10, -16(x8); lw x5, -20(x8); jal x28, 28; addi x10, x6, 0");
        // From the left, by strength.
        due("1 - 2 - 3;", "addi x10, x0, 1; sw x10, -20(x8); addi x10, x0, 2; lw x5, -20(x8); sub x10, x5, x10; "
            + "sw x10, -20(x8); addi x10, x0, 3; lw x5, -20(x8); sub x10, x5, x10");
        due("1 | 2 + 3;", "addi x10, x0, 1; sw x10, -20(x8); addi x10, x0, 2; sw x10, -24(x8); addi x10, x0, 3; "
            + "lw x5, -24(x8); add x10, x5, x10; lw x5, -20(x8); or x10, x5, x10");
        due("1 + 2 | 3;", "addi x10, x0, 1; sw x10, -20(x8); addi x10, x0, 2; lw x5, -20(x8); add x10, x5, x10; "
            + "sw x10, -20(x8); addi x10, x0, 3; lw x5, -20(x8); or x10, x5, x10");
        due("1 - (2 - 3);", "addi x10, x0, 1; sw x10, -20(x8); addi x10, x0, 2; sw x10, -24(x8); addi x10, x0, 3; "
            + "lw x5, -24(x8); sub x10, x5, x10; lw x5, -20(x8); sub x10, x5, x10");
        due("-1 << 2;", "addi x10, x0, 1; sub x10, x0, x10; sw x10, -20(x8); addi x10, x0, 2; lw x5, -20(x8); "
            + "sll x10, x5, x10");
    }

    private static void sets() {
        String index = "addi x10, x0, 1; lui x6, 0; addi x6, x6, 3; bltu x10, x6, 12; addi x17, x0, 3; ebreak; "
            + "slli x10, x10, 2; lui x6, hi(r); add x10, x10, x6; addi x10, x10, lo(r); sw x10, -20(x8); ";
        due("p = 7;", "addi x10, x0, 7; sw x10, -12(x8)");
        due("v = 7;", "addi x10, x0, 7; lui x6, hi(v); sw x10, lo(v)(x6)");
        due("p -= 7;",
            "lw x10, -12(x8); sw x10, -20(x8); addi x10, x0, 7; lw x5, -20(x8); sub x10, x5, x10; sw x10, -12(x8)");
        due("v ^= 7;", "lui x6, hi(v); lw x10, lo(v)(x6); sw x10, -20(x8); addi x10, x0, 7; lw x5, -20(x8); "
            + "xor x10, x5, x10; lui x6, hi(v); sw x10, lo(v)(x6)");
        due("r[1] = 7;", index + "addi x10, x0, 7; lw x6, -20(x8); sw x10, 0(x6)");
        due("r[1] <<= 7;", index + "lw x10, 0(x10); sw x10, -24(x8); addi x10, x0, 7; lw x5, -24(x8); "
            + "sll x10, x5, x10; lw x6, -20(x8); sw x10, 0(x6)");
        due("p = q = 7;", "addi x10, x0, 7; sw x10, -16(x8); sw x10, -12(x8)");
        due("r[1] = r[1] = 7;", index + index.replace("-20(x8)", "-24(x8)")
            + "addi x10, x0, 7; lw x6, -24(x8); sw x10, 0(x6); lw x6, -20(x8); sw x10, 0(x6)");
        String[][] signs = {{"+", "add"}, {"-", "sub"}, {"&", "and"}, {"|", "or"}, {"^", "xor"}, {"<<", "sll"},
            {">>", "sra"}};
        for (String[] sign : signs) {
            due("q " + sign[0] + "= 7;", "lw x10, -16(x8); sw x10, -20(x8); addi x10, x0, 7; lw x5, -20(x8); "
                + sign[1] + " x10, x5, x10; sw x10, -16(x8)");
        }
        due("p %= q;", "lw x10, -12(x8); sw x10, -20(x8); lw x10, -16(x8); lw x5, -20(x8); jal x28, 32; "
            + "addi x10, x6, 0; sw x10, -12(x8)");
        due("p *= q;",
            "lw x10, -12(x8); sw x10, -20(x8); lw x10, -16(x8); lw x5, -20(x8); jal x28, 28; sw x10, -12(x8)");
    }

    private static void calls() {
        // h is at 8, has 20 words; f is at 88, its body at 140.
        due("h(1, 2, 3);", "addi x10, x0, 1; sw x10, -20(x8); addi x10, x0, 2; sw x10, -24(x8); addi x10, x0, 3; "
            + "sw x10, -28(x8); addi x5, x8, -20; jal x1, -160");
        due("1 + h(2, 3 + 4, 5);", "addi x10, x0, 1; sw x10, -20(x8); addi x10, x0, 2; sw x10, -24(x8); "
            + "addi x10, x0, 3; sw x10, -28(x8); addi x10, x0, 4; lw x5, -28(x8); add x10, x5, x10; "
            + "sw x10, -28(x8); addi x10, x0, 5; sw x10, -32(x8); addi x5, x8, -24; jal x1, -184; "
            + "lw x5, -20(x8); add x10, x5, x10");
        PocketCompiler x = Check.loaded(256, "int f() { g(); } int g() { f(); }");
        CHECK.same("a later one", listing(x, 11, 12), "jal x1, 24");
        CHECK.same("an earlier one", listing(x, 26, 27), "jal x1, -96");
    }

    private static void stats() {
        due("int a;", "addi x10, x0, 0; sw x10, -20(x8)");
        due("int a = 7; a;", "addi x10, x0, 7; sw x10, -20(x8); lw x10, -20(x8)");
        due("put(p);", "lw x10, -12(x8); addi x17, x0, 1; ecall");
        due("return;", "addi x10, x0, 0; jal x0, 8");
        due("return p; 1;", "lw x10, -12(x8); jal x0, 12; addi x10, x0, 1");
        due("if (p) 1;", "lw x10, -12(x8); bne x10, x0, 8; jal x0, 8; addi x10, x0, 1");
        due("if (p) 1; else 2;",
            "lw x10, -12(x8); bne x10, x0, 8; jal x0, 12; addi x10, x0, 1; jal x0, 8; addi x10, x0, 2");
        due("if (p) if (q) 1; else 2;", "lw x10, -12(x8); bne x10, x0, 8; jal x0, 28; lw x10, -16(x8); "
            + "bne x10, x0, 8; jal x0, 12; addi x10, x0, 1; jal x0, 8; addi x10, x0, 2");
        due("{ 1; ; { } 2; }", "addi x10, x0, 1; addi x10, x0, 2");
    }

    private static void loops() {
        due("while (p) 1;", "lw x10, -12(x8); bne x10, x0, 8; jal x0, 12; addi x10, x0, 1; jal x0, -16");
        due("while (p) { break; continue; }",
            "lw x10, -12(x8); bne x10, x0, 8; jal x0, 16; jal x0, 12; jal x0, -16; jal x0, -20");
        due("do 1; while (p);", "addi x10, x0, 1; lw x10, -12(x8); beq x10, x0, 8; jal x0, -12");
        due("do { break; continue; } while (p);",
            "jal x0, 20; jal x0, 4; lw x10, -12(x8); beq x10, x0, 8; jal x0, -16");
        due("for (1; p; 2) 3;", "addi x10, x0, 1; lw x10, -12(x8); bne x10, x0, 8; jal x0, 24; jal x0, 12; "
            + "addi x10, x0, 2; jal x0, -20; addi x10, x0, 3; jal x0, -12");
        due("for (;;) 3;", "jal x0, 8; jal x0, -4; addi x10, x0, 3; jal x0, -8");
        due("for (;;) { break; continue; }", "jal x0, 8; jal x0, -4; jal x0, 12; jal x0, -8; jal x0, -12");
        due("while (p) { while (q) break; break; }", "lw x10, -12(x8); bne x10, x0, 8; jal x0, 32; "
            + "lw x10, -16(x8); bne x10, x0, 8; jal x0, 12; jal x0, 8; jal x0, -16; jal x0, 8; jal x0, -36");
    }

    private static void frame(String body, int slots) {
        PocketCompiler x = Check.loaded(4096, HEAD + body + " }");
        CHECK.same("FRAME of " + body, x.function(F, 2), 8 + 4 * slots);
    }

    private static void slots() {
        frame("", 2);
        frame("p && q || p ? 1 : -q;", 2);
        frame("v = p = 1;", 2);
        frame("p + q;", 3);
        frame("1 | 2 ^ 3 & 4 == 5 < 6 << 7 + 8 * 9;", 10);
        frame("1 * 2 + 3 << 4 < 5 == 6 & 7 ^ 8 | 9;", 3);
        frame("int a;", 3);
        frame("int a = p + q;", 3);
        frame("int a; int b = p + q;", 4);
        frame("int a; int b; p + q;", 5);
        frame("{ int a; int b; } { int c; } p + q;", 4);
        frame("if (p) int a; else int b; int c;", 3);
        frame("h(1, 2, 3);", 5);
        frame("h(1, 2, 3 + 4);", 5);
        frame("h(1, 2, h(3, 4, 5));", 7);
        frame("h(h(3, 4, 5), 1, 2);", 5);
        frame("p += 1;", 3);
        frame("r[0] = 1;", 3);
        frame("r[0] += 1;", 4);
        frame("r[p + q] += 1;", 4);
        frame("r[0] += r[1] += 1;", 6);
        due("{ int a = 1; } int b = 2; b;",
            "addi x10, x0, 1; sw x10, -20(x8); addi x10, x0, 2; sw x10, -20(x8); lw x10, -20(x8)");
        due("int a = p + q;", "lw x10, -12(x8); sw x10, -20(x8); lw x10, -16(x8); lw x5, -20(x8); "
            + "add x10, x5, x10; sw x10, -20(x8)");
        due("int a; { int a = a + 1; }", "addi x10, x0, 0; sw x10, -20(x8); lw x10, -20(x8); sw x10, -24(x8); "
            + "addi x10, x0, 1; lw x5, -24(x8); add x10, x5, x10; sw x10, -24(x8)");
    }

    private static void divisions() {
        String times = "addi x6, x0, 0; beq x10, x0, 28; andi x7, x10, 1; beq x7, x0, 8; add x6, x6, x5; "
            + "slli x5, x5, 1; srli x10, x10, 1; jal x0, -24; addi x10, x6, 0; jalr x0, 0(x28)";
        String over = "bne x10, x0, 12; addi x17, x0, 2; ebreak; xor x29, x5, x10; addi x30, x5, 0; bge x5, x0, 8; "
            + "sub x5, x0, x5; bge x10, x0, 8; sub x10, x0, x10; addi x6, x0, 0; addi x7, x0, 32; "
            + "srli x31, x5, 31; slli x5, x5, 1; slli x6, x6, 1; or x6, x6, x31; bltu x6, x10, 12; "
            + "sub x6, x6, x10; ori x5, x5, 1; addi x7, x7, -1; bne x7, x0, -32; addi x10, x5, 0; bge x29, x0, 8; "
            + "sub x10, x0, x10; bge x30, x0, 8; sub x6, x0, x6; jalr x0, 0(x28)";
        String[] withTimes = {"p * q;", "p *= q;"};
        String[] withOver = {"p / q;", "p /= q;", "p % q;", "p %= q;"};
        for (String body : withTimes) {
            PocketCompiler x = Check.loaded(1024, HEAD + body + " }");
            CHECK.same("MUL", listing(x, x.count(1) - 10, x.count(1)), times);
        }
        for (String body : withOver) {
            PocketCompiler x = Check.loaded(1024, HEAD + body + " }");
            CHECK.same("DIV", listing(x, x.count(1) - 26, x.count(1)), over);
        }
        PocketCompiler both = Check.loaded(1024, HEAD + "p / q * p; }");
        CHECK.same("MUL, DIV", listing(both, both.count(1) - 36, both.count(1)), times + "; " + over);
        PocketCompiler none = Check.loaded(1024, HEAD + "'*'; '/'; } // * / %");
        CHECK.same("neither", listing(none, none.count(1) - 1, none.count(1)), "jalr x0, 0(x1)");
    }

    private static void farJumps() {
        PocketCompiler x = Check.loaded(4096, "int f(int a) { while (a) {" + "2048;".repeat(700) + "} f(1); }");
        CHECK.same("over the stat", listing(x, 13, 16), "lw x10, -12(x8); bne x10, x0, 8; jal x0, 5608");
        CHECK.same("back", listing(x, 1416, 1417), "jal x0, -5612");
        CHECK.same("a call", listing(x, 1420, 1421), "jal x1, -5672");
    }

    /** Addresses whose lower part is below 0, and whose upper part is not 0. */
    private static void farAddresses() {
        PocketCompiler x = Check.loaded(4096, "int g[1000]; " + HEAD + "2048;".repeat(300) + "v = r[2] += v; }");
        int v = x.global(1, 1);
        int r = x.global(2, 1);
        CHECK.same("code", x.count(1), 661);
        CHECK.same("v", v, 6644);
        CHECK.same("r", r, 6648);
        CHECK.same("LIMIT", x.count(4), 6660);
        CHECK.same("ahead", listing(x, x.function(1, 1) / 4, x.function(1, 1) / 4 + 3),
            "addi x2, x2, -24; lui x6, 2; addi x6, x6, -1532");
        CHECK.same("behind", listing(x, x.count(1) - 26, x.count(1) - 5), "addi x10, x0, 2; lui x6, 0; "
            + "addi x6, x6, 3; bltu x10, x6, 12; addi x17, x0, 3; ebreak; slli x10, x10, 2; lui x6, 2; "
            + "add x10, x10, x6; addi x10, x10, -1544; sw x10, -20(x8); lw x10, 0(x10); sw x10, -24(x8); "
            + "lui x6, 2; lw x10, -1548(x6); lw x5, -24(x8); add x10, x5, x10; lw x6, -20(x8); sw x10, 0(x6); "
            + "lui x6, 2; sw x10, -1548(x6)");
    }
}
