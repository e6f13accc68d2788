/** Terms 2, and promises 6 to 8: numbers, addresses, distances and slots at the edges of what a word can hold. */
public final class CodeEdgesTest {
    private static final Check CHECK = new Check();
    private static final int NONE = PocketCompiler.NONE;
    // An E that puts twenty numbers by.
    private static final String TWENTY = "1|1^1&1==1<1<<1+1*(1|1^1&1==1<1<<1+1*(1|1^1&1==2));";
    private static final int LEAST = Integer.MIN_VALUE;
    private static final int MOST = Integer.MAX_VALUE;

    public static void main(String[] args) {
        numbers();
        addresses();
        limits();
        rowSizes();
        frames();
        slots();
        parameters();
        argumentsOrNone();
        distances();
        timesAndOver();
        behindTheCode();
        factsOfFunctions();
        factsOfGlobals();
        CHECK.end();
    }

    private static String listing(PocketCompiler x, int from, int to) {
        return Check.listing(x, from, to).trim().replace("\n", "; ");
    }

    private static int hi(int v) {
        return (int) ((v + 2048L & 0xFFFFFFFFL) >> 12);
    }

    private static int lo(int v) {
        return v - (hi(v) << 12);
    }

    /** "ADDI A0, Z, v, if v is -2048 .. 2047, else LUI A0, hi(v); ADDI A0, A0, lo(v)". */
    private static void numbers() {
        int[] short12 = {0, 1, 2046, 2047, -1, -2, -2047, -2048};
        int[] longer = {2048, 2049, 4095, 4096, 4097, 6143, 6144, -2049, -2050, -4095, -4096, -4097, -6144, -6145, MOST,
            MOST - 1, 0x7FFFF7FF, 0x7FFFF800, 0x7FFFF000, 0x7FFFEFFF, LEAST, LEAST + 1, LEAST + 2047, LEAST + 2048,
            LEAST + 2049, 0xFFFFF7FF, 0xFFFFF000, 0xFFFFEFFF};
        for (int v : short12) {
            number(v, "addi x10, x0, " + v);
        }
        for (int v : longer) {
            number(v, "lui x10, " + hi(v) + "; addi x10, x10, " + lo(v));
        }
        number(2048, "lui x10, 1; addi x10, x10, -2048");
        number(-2049, "lui x10, 1048575; addi x10, x10, 2047");
        number(MOST, "lui x10, 524288; addi x10, x10, -1");
        number(0x7FFFF7FF, "lui x10, 524287; addi x10, x10, 2047");
        number(0x7FFFF800, "lui x10, 524288; addi x10, x10, -2048");
        number(LEAST, "lui x10, 524288; addi x10, x10, 0");
    }

    private static void number(int v, String due) {
        PocketCompiler x = Check.loaded(256, "int f() { return 0x" + Integer.toHexString(v) + "; }");
        int words = due.split("; ").length;
        CHECK.same("number " + v, listing(x, 11, 11 + words), due);
        CHECK.same("behind it", listing(x, 11 + words, 12 + words), "jal x0, 8");
        if (v >= 0) {
            PocketCompiler y = Check.loaded(256, "int f() { return " + v + "; }");
            CHECK.same("in digits " + v, listing(y, 11, 11 + words), due);
        }
        x.start(0, 0, 0);
        x.run(100);
        CHECK.same("its value", x.result(), v);
    }

    /** Globals at the addresses where hi() goes up: 2048 behind each multiple of 4096. */
    private static void addresses() {
        for (int edge : new int[] {2048, 4096, 6144, 8192, 10240, 12288, 14336}) {
            for (int at = edge - 12; at <= edge + 8; at += 4) {
                variableAt(at);
                rowAt(at);
            }
        }
    }

    /** Rows ahead of a global that bring it to an address; the code has so many words. */
    private static String rowsAhead(int address, int words) {
        int left = address / 4 - words;
        StringBuilder text = new StringBuilder();
        for (int k = 0; left > 0; k++) {
            int size = Math.min(left, 1000);
            text.append("int b").append(k).append('[').append(size).append("];");
            left -= size;
        }
        return text.toString();
    }

    private static void variableAt(int at) {
        String body = "int v; int f() { v; v = 7; v += 2; return v; }";
        String due = "lui x6, H; lw x10, L(x6); addi x10, x0, 7; lui x6, H; sw x10, L(x6); lui x6, H; lw x10, L(x6); "
            + "sw x10, -12(x8); addi x10, x0, 2; lw x5, -12(x8); add x10, x5, x10; lui x6, H; sw x10, L(x6); "
            + "lui x6, H; lw x10, L(x6); jal x0, 8";
        PocketCompiler x = Check.loaded(4096, rowsAhead(at, 32) + body);
        CHECK.same("words", x.count(1), 32);
        CHECK.same("address", x.global(x.count(3) - 1, 1), at);
        CHECK.same("LIMIT", x.count(4), at + 4);
        CHECK.same("a variable at " + at, listing(x, 11, 27), due.replace("H", "" + hi(at)).replace("L", "" + lo(at)));
        x.start(0, 0, 0);
        x.run(100);
        CHECK.same("result", x.result(), 9);
        CHECK.same("it is there", x.word(at), 9);
        CHECK.same("and not ahead of it", x.word(at - 4), 0);
    }

    private static void rowAt(int at) {
        String body = "int r[2]; int f() { r[1]; r[0] = 7; r[1] += 2; return r[0] - r[1]; }";
        String index = "lui x6, 0; addi x6, x6, 2; bltu x10, x6, 12; addi x17, x0, 3; ebreak; slli x10, x10, 2; lui x6, H; "
            + "add x10, x10, x6; ";
        String due = "addi x10, x0, 1; " + index + "lw x10, L(x10); addi x10, x0, 0; " + index + "addi x10, x10, L; "
            + "sw x10, -12(x8); addi x10, x0, 7; lw x6, -12(x8); sw x10, 0(x6); addi x10, x0, 1; " + index
            + "addi x10, x10, L; sw x10, -12(x8); lw x10, 0(x10); sw x10, -16(x8); addi x10, x0, 2; lw x5, -16(x8); "
            + "add x10, x5, x10; lw x6, -12(x8); sw x10, 0(x6)";
        PocketCompiler x = Check.loaded(4096, rowsAhead(at, 82) + body);
        CHECK.same("words", x.count(1), 82);
        CHECK.same("address", x.global(x.count(3) - 1, 1), at);
        CHECK.same("a row at " + at, listing(x, 11, 11 + due.split("; ").length),
            due.replace("H", "" + hi(at)).replace("L", "" + lo(at)));
        x.start(0, 0, 0);
        x.run(1000);
        CHECK.same("result", x.result(), 5);
        CHECK.same("first", x.word(at), 7);
        CHECK.same("second", x.word(at + 4), 2);
    }

    /** "LUI T1, hi(LIMIT); ADDI T1, T1, lo(LIMIT)". */
    private static void limits() {
        for (int limit : new int[] {64, 2040, 2044, 2048, 2052, 4092, 4096, 6140, 6144, 6148, 14332, 14336, 16320}) {
            PocketCompiler x = Check.loaded(4096, rowsAhead(limit, 16) + "int f() { }");
            CHECK.same("LIMIT", x.count(4), limit);
            CHECK.same("code of LIMIT " + limit, listing(x, 3, 5), "lui x6, " + hi(limit) + "; addi x6, x6, " + lo(limit));
        }
    }

    /** A row's number of numbers, from 1 to 1000, is what an index is compared with. */
    private static void rowSizes() {
        for (int size : new int[] {1, 2, 999, 1000}) {
            PocketCompiler x = Check.loaded(4096, "int r[" + size + "]; int s; int f(int a) { return r[a] + 5; }");
            CHECK.same("row of " + size, listing(x, 14, 17), "lui x6, 0; addi x6, x6, " + size + "; bltu x10, x6, 12");
            CHECK.same("numbers", x.global(0, 0), size);
            CHECK.same("the next global", x.global(1, 1), x.global(0, 1) + 4 * size);
            for (int index : new int[] {-1, 0, size - 1, size, LEAST, MOST}) {
                boolean isFine = index >= 0 && index < size;
                x.start(0, index, 0);
                x.run(100);
                CHECK.same("A7 of index " + index, x.count(10), isFine ? 0 : 3);
                CHECK.same("result", x.result(), isFine ? 5 : index);
                CHECK.same("work", x.work(0, index, 0, 5), isFine ? 0 : 3);
            }
        }
    }

    private static void frame(String text, int slots) {
        PocketCompiler x = Check.loaded(4096, text);
        int f = 8 + 4 * slots;
        int at = x.function(0, 1) / 4;
        CHECK.same("FRAME of " + slots, x.function(0, 2), f);
        CHECK.same("ahead", listing(x, at, at + 1), "addi x2, x2, " + -f);
        CHECK.same("behind", listing(x, at + 6, at + 9),
            "sw x1, " + (f - 4) + "(x2); sw x8, " + (f - 8) + "(x2); addi x8, x2, " + f);
    }

    private static String locals(int count) {
        StringBuilder text = new StringBuilder();
        for (int k = 0; k < count; k++) {
            text.append("int a").append(Integer.toString(k, 36)).append(';');
        }
        return text.toString();
    }

    /** "FRAME F: 8 and 4 times the most slots that are wanted anywhere in the function". */
    private static void frames() {
        for (int slots : new int[] {0, 1, 2, 5, 6, 7, 8, 100, 490}) {
            frame("int f() {" + locals(slots) + "}", slots);
        }
        frame("int f() {" + locals(480) + TWENTY + "}", 500);
        frame("int f() {" + locals(479) + TWENTY + "}", 499);
        // The most anywhere, not the last, not the sum.
        frame("int f() { int a; { int b; int c; } int d; }", 3);
        frame("int f() { { int b; int c; } { int d; } }", 2);
        frame("int f(int a) { { int b; 1 + 2; } 1 + (2 + (3 + 4)); }", 4);
        frame("int f(int a) { if (a) { int b; int c; int d; } else int e; }", 4);
        PocketCompiler x = Check.loaded(1024, "int f() { int a; int b; } int g() { } int h(int a) { }");
        CHECK.same("each function has its own", x.function(0, 2), 16);
        CHECK.same("each function has its own", x.function(1, 2), 8);
        CHECK.same("each function has its own", x.function(2, 2), 12);
    }

    /** "S(k) = -12 - 4 k": the first slot, and the 500th. */
    private static void slots() {
        PocketCompiler x = Check.loaded(4096, "int f() { int a; a; 1 + 2; }");
        CHECK.same("slots 0 and 1", listing(x, 11, 18), "addi x10, x0, 0; sw x10, -12(x8); lw x10, -12(x8); "
            + "addi x10, x0, 1; sw x10, -16(x8); addi x10, x0, 2; lw x5, -16(x8)");
        PocketCompiler y = Check.loaded(4096, "int f() {" + locals(480) + TWENTY + " return a" + Integer.toString(479, 36) + "; }");
        CHECK.same("FRAME", y.function(0, 2), 2008);
        int at = 2 + 9 + 2 * 480;
        CHECK.same("the first one put by", listing(y, at, at + 2), "addi x10, x0, 1; sw x10, " + (-12 - 4 * 480) + "(x8)");
        CHECK.same("the 500th slot", listing(y, at + 38, at + 44), "addi x10, x0, 1; sw x10, -2008(x8); addi x10, x0, 2; "
            + "lw x5, -2008(x8); sub x10, x5, x10; sltiu x10, x10, 1");
        int behind = y.count(1) - 10 - 5 - 2;
        CHECK.same("the last local", listing(y, behind, behind + 1), "lw x10, " + (-12 - 4 * 479) + "(x8)");
    }

    /** "for each parameter k: LW T1, -4 k(T0); SW T1, S(k)(FP)": none to eight. */
    private static void parameters() {
        String[] names = {"a", "b", "c", "d", "e", "i", "j", "k"};
        for (int count = 0; count <= 8; count++) {
            StringBuilder text = new StringBuilder("int f(");
            StringBuilder due = new StringBuilder("addi x8, x2, " + (8 + 4 * count));
            for (int k = 0; k < count; k++) {
                text.append(k == 0 ? "int " : ", int ").append(names[k]);
                due.append("; lw x6, ").append(-4 * k).append("(x5); sw x6, ").append(-12 - 4 * k).append("(x8)");
            }
            PocketCompiler x = Check.loaded(256, text + ") { }");
            CHECK.same(count + " parameters", listing(x, 10, 12 + 2 * count), due + "; addi x10, x0, 0");
            CHECK.same("words", x.count(1), 16 + 2 * count);
        }
    }

    /** "then, with E's, ADDI T0, FP, S of the first one's slot". */
    private static void argumentsOrNone() {
        PocketCompiler x = Check.loaded(256, "int f() { f(); }");
        CHECK.same("without", listing(x, 11, 13), "jal x1, -36; addi x10, x0, 0");
        PocketCompiler y = Check.loaded(256, "int f(int a) { f(1); }");
        CHECK.same("with", listing(y, 13, 17), "addi x10, x0, 1; sw x10, -16(x8); addi x5, x8, -16; jal x1, -56");
        PocketCompiler z = Check.loaded(256, "int f(int a, int b, int c, int d, int e, int g, int h, int i) "
            + "{ f(1, 2, 3, 4, 5, 6, 7, 8); }");
        CHECK.same("the eighth", listing(z, 41, 45), "addi x10, x0, 8; sw x10, -72(x8); addi x5, x8, -44; jal x1, -168");
    }

    /** JAL over distances at which its parts fill up: 2 ** 11 and 2 ** 12. */
    private static void distances() {
        for (int words : new int[] {0, 1, 2, 507, 508, 509, 510, 511, 512, 1019, 1020, 1021, 1022, 1023, 1024}) {
            String body = "1;".repeat(words % 700) + "2048;".repeat(words / 700 * 350);
            int real = words % 700 + words / 700 * 700;
            PocketCompiler x = Check.loaded(4096, "int f(int a) { while (a) {" + body + "} f(1); } int g() { f(0); h(); } int h() { }");
            int back = 4 * (real + 3);
            CHECK.same("over " + words, listing(x, 13, 16), "lw x10, -12(x8); bne x10, x0, 8; jal x0, " + (4 * real + 8));
            CHECK.same("back over " + words, listing(x, 16 + real, 17 + real), "jal x0, " + -back);
            int call = 20 + real;
            CHECK.same("a call back", listing(x, call, call + 1), "jal x1, " + -4 * (call - 2));
            int g = x.function(1, 1) / 4;
            CHECK.same("a call from another one", listing(x, g + 12, g + 13), "jal x1, " + -4 * (g + 12 - 2));
            CHECK.same("a call ahead", listing(x, g + 13, g + 14), "jal x1, " + (x.function(2, 1) - 4 * (g + 13)));
        }
        for (int words : new int[] {507, 508, 509, 510, 511, 512}) {
            PocketCompiler y = Check.loaded(4096, "int f() { return 1 * 2 / 3; } int g() {" + "1;".repeat(words) + "}");
            int times = y.count(1) - 36;
            CHECK.same("to MUL", listing(y, 15, 16), "jal x28, " + 4 * (times - 15));
            CHECK.same("to DIV", listing(y, 19, 20), "jal x28, " + 4 * (times + 10 - 19));
        }
    }

    private static void tail(String body, boolean times, boolean over) {
        PocketCompiler x = Check.loaded(1024, "int v; int f(int a) { if (0) { " + body + " } } int g() { } // * / %");
        int end = x.function(1, 1) / 4 + 14;
        CHECK.same("words behind the functions of " + body, x.count(1) - end, (times ? 10 : 0) + (over ? 26 : 0));
        if (times) {
            CHECK.same("MUL of " + body, listing(x, end, end + 1), "addi x6, x0, 0");
        }
        if (over) {
            int at = end + (times ? 10 : 0);
            CHECK.same("DIV of " + body, listing(x, at, at + 1), "bne x10, x0, 12");
        }
        CHECK.same("the globals are behind", x.global(0, 1), 4 * x.count(1));
    }

    /** "then, if * or *= stands in the text, MUL; then, if / % /= or %= does, DIV". */
    private static void timesAndOver() {
        tail("a + 1; '*'; '/'; '%';", false, false);
        tail("a * 1;", true, false);
        tail("a *= 1;", true, false);
        tail("v *= 1;", true, false);
        tail("a / 1;", false, true);
        tail("a /= 1;", false, true);
        tail("a % 1;", false, true);
        tail("a %= 1;", false, true);
        tail("a * 1; a / 1;", true, true);
        tail("a % 1; a *= 1;", true, true);
        tail("a * a * a;", true, false);
    }

    /** Promise 6: "Word i of the code; 0 behind it. IndexOutOfBoundsException: i is below 0". */
    private static void behindTheCode() {
        PocketCompiler x = Check.loaded(256, "int v; int f() { v = 5; }");
        int words = x.count(1);
        CHECK.same("words", words, 19);
        CHECK.same("first", x.code(0), 0x00000893);
        CHECK.same("second", x.code(1), 0x00100073);
        CHECK.same("last", x.code(words - 1), 0x00008067);
        for (int i : new int[] {words, words + 1, 255, 256, 4095, 4096, 1 << 29, 1 << 30, MOST}) {
            CHECK.same("code " + i, x.code(i), 0);
        }
        for (int i : new int[] {-1, -2, LEAST}) {
            CHECK.fails("code " + i, IndexOutOfBoundsException.class, () -> x.code(i));
        }
        // A shorter text leaves no words of a longer one, however often that was loaded.
        for (int again = 0; again < 3; again++) {
            CHECK.same("the longer text", Check.load(x, "int v; int f() { v = 5; v = 6; v = 7; }"), 0);
        }
        for (String shorter : new String[] {"int v; int f() { v = 5; }", "int f() { }", ""}) {
            CHECK.same("a shorter text", Check.load(x, shorter), 0);
            for (int i = x.count(1); i < 30; i++) {
                CHECK.same("behind the shorter one " + i, x.code(i), 0);
            }
            CHECK.yes("its last word", x.code(x.count(1) - 1) != 0);
        }
        // The last word that the largest memory lets be.
        PocketCompiler y = Check.loaded(4096, "int f(){" + "2048;".repeat(740) + "}");
        CHECK.same("last", y.code(y.count(1) - 1), 0x00008067);
        CHECK.same("behind it", y.code(y.count(1)), 0);
    }

    /** Promise 7: "NONE without one, or for another what". */
    private static void factsOfFunctions() {
        StringBuilder text = new StringBuilder();
        for (int k = 0; k < 40; k++) {
            text.append("int f").append(k).append(k % 3 == 0 ? "(){}" : k % 3 == 1 ? "(int a){}" : "(int a,int b){int c;}");
        }
        PocketCompiler x = Check.loaded(1024, text.toString());
        int address = 8;
        for (int k = 0; k < 40; k++) {
            CHECK.same("parameters", x.function(k, 0), k % 3);
            CHECK.same("address", x.function(k, 1), address);
            CHECK.same("FRAME", x.function(k, 2), 8 + 4 * new int[] {0, 1, 3}[k % 3]);
            CHECK.same("place", x.function(k, 3), text.indexOf("f" + k + "("));
            address += 4 * new int[] {14, 16, 20}[k % 3];
        }
        CHECK.same("words", x.count(1), address / 4);
        for (int what = -1; what <= 5; what++) {
            for (int none : new int[] {-1, 40, 41, LEAST, MOST}) {
                CHECK.same("function " + none, x.function(none, what), NONE);
            }
        }
        for (int what : new int[] {-1, 4, 5, 6, LEAST, MOST}) {
            CHECK.same("what " + what, x.function(0, what), NONE);
            CHECK.same("what " + what, x.function(39, what), NONE);
        }
    }

    /** Promise 8: "NONE likewise". */
    private static void factsOfGlobals() {
        StringBuilder text = new StringBuilder();
        for (int k = 0; k < 60; k++) {
            text.append("int g").append(k).append(k % 3 == 0 ? ";" : k % 3 == 1 ? "[1];" : "[2];");
        }
        PocketCompiler x = Check.loaded(256, text.toString());
        int address = 8;
        for (int k = 0; k < 60; k++) {
            int numbers = k % 3 == 2 ? 2 : 1;
            CHECK.same("numbers", x.global(k, 0), numbers);
            CHECK.same("address", x.global(k, 1), address);
            CHECK.same("a row", x.global(k, 2), k % 3 == 0 ? 0 : 1);
            CHECK.same("place", x.global(k, 3), text.indexOf("g" + k + (k % 3 == 0 ? ";" : "[")));
            address += 4 * numbers;
        }
        CHECK.same("LIMIT", x.count(4), address);
        for (int what = -1; what <= 5; what++) {
            for (int none : new int[] {-1, 60, 61, LEAST, MOST}) {
                CHECK.same("global " + none, x.global(none, what), NONE);
            }
        }
        for (int what : new int[] {-1, 4, 5, 6, LEAST, MOST}) {
            CHECK.same("what " + what, x.global(0, what), NONE);
            CHECK.same("what " + what, x.global(59, what), NONE);
        }
    }
}
