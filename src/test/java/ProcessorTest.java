import java.util.NoSuchElementException;

/** Promises 12 to 20, 27: start, step, run, result, register, set, word, poke, put, count. */
public final class ProcessorTest {
    private static final Check CHECK = new Check();
    private static final int EBREAK = 0x100073;
    private static final int ECALL = 0x73;

    public static void main(String[] args) {
        arithmetic();
        shifts();
        upper();
        branches();
        jumps();
        loads();
        stores();
        services();
        haltsAndIllegalWords();
        badProgramCounters();
        registers();
        memory();
        starts();
        runs();
        putsAreKept();
        counts();
        CHECK.end();
    }

    /** A word at 256 with x1 and x2 told; a step is done. */
    private static PocketCompiler stepped(int word, int x1, int x2) {
        PocketCompiler x = new PocketCompiler(256);
        x.poke(256, word);
        x.set(1, x1);
        x.set(2, x2);
        x.set(32, 256);
        x.step();
        return x;
    }

    /** What x3 is behind a word that has x1, x2 and x3 in their places. */
    private static void becomes(String what, int word, int x1, int x2, int due) {
        PocketCompiler x = stepped(word | 3 << 7 | 1 << 15, x1, x2);
        CHECK.same(what + " status", x.count(5), 0);
        CHECK.same(what + " PC", x.register(32), 260);
        CHECK.same(what, x.register(3), due);
        PocketCompiler y = stepped(word | 1 << 15, x1, x2);
        CHECK.same(what + " into x0", y.register(0), 0);
        PocketCompiler z = stepped(word | 1 << 7 | 1 << 15, x1, x2);
        CHECK.same(what + " into x1", z.register(1), due);
    }

    private static void arithmetic() {
        int least = Integer.MIN_VALUE;
        int most = Integer.MAX_VALUE;
        int r2 = 2 << 20;
        becomes("add", 0x33 | r2, most, 1, least);
        becomes("sub", 0x40000033 | r2, least, 1, most);
        becomes("slt", 0x2033 | r2, -1, 0, 1);
        becomes("slt", 0x2033 | r2, 0, -1, 0);
        becomes("slt", 0x2033 | r2, 4, 4, 0);
        becomes("sltu", 0x3033 | r2, -1, 0, 0);
        becomes("sltu", 0x3033 | r2, 0, -1, 1);
        becomes("sltu", 0x3033 | r2, 4, 4, 0);
        becomes("xor", 0x4033 | r2, 0b1100, 0b1010, 0b0110);
        becomes("or", 0x6033 | r2, 0b1100, 0b1010, 0b1110);
        becomes("and", 0x7033 | r2, 0b1100, 0b1010, 0b1000);
        becomes("addi", 0x13 | 2047 << 20, most, 0, least + 2046);
        becomes("addi", 0x80000013, 0, 0, -2048);
        becomes("slti", 0x2013 | 5 << 20, -7, 0, 1);
        becomes("slti", 0xFFF02013, -1, 0, 0);
        becomes("sltiu", 0x3013 | 1 << 20, 0, 0, 1);
        becomes("sltiu", 0x3013 | 1 << 20, -1, 0, 0);
        becomes("sltiu", 0xFFF03013, -2, 0, 1);
        becomes("xori", 0xFFF04013, 0x0F0F0F0F, 0, 0xF0F0F0F0);
        becomes("ori", 0xF0006013, 0x5, 0, 0xFFFFFF05);
        becomes("andi", 0x0FF07013, 0x12345678, 0, 0x78);
        becomes("andi", 0xFFF07013, least, 0, least);
    }

    private static void shifts() {
        int r2 = 2 << 20;
        becomes("sll", 0x1033 | r2, 1, 31, Integer.MIN_VALUE);
        becomes("sll by 32", 0x1033 | r2, 5, 32, 5);
        becomes("sll by -1", 0x1033 | r2, 3, -1, Integer.MIN_VALUE);
        becomes("srl", 0x5033 | r2, Integer.MIN_VALUE, 31, 1);
        becomes("srl by 33", 0x5033 | r2, -1, 33, Integer.MAX_VALUE);
        becomes("sra", 0x40005033 | r2, Integer.MIN_VALUE, 31, -1);
        becomes("sra by 33", 0x40005033 | r2, -8, 33, -4);
        becomes("slli", 0x1013 | 31 << 20, 3, 0, Integer.MIN_VALUE);
        becomes("srli", 0x5013 | 4 << 20, -1, 0, 0x0FFFFFFF);
        becomes("srai", 0x40005013 | 4 << 20, -256, 0, -16);
        becomes("srai by 0", 0x40005013, -256, 0, -256);
    }

    private static void upper() {
        PocketCompiler x = stepped(0xFFFFF1B7, 0, 0);
        CHECK.same("lui", x.register(3), 0xFFFFF000);
        PocketCompiler y = stepped(0xFFFFF197, 0, 0);
        CHECK.same("auipc", y.register(3), 256 - 4096);
        CHECK.same("PC", y.register(32), 260);
    }

    private static void branch(int low, int x1, int x2, boolean taken) {
        int word = 0x63 | low << 12 | 1 << 15 | 2 << 20;
        PocketCompiler x = stepped(word | 8 << 8, x1, x2);
        CHECK.same("branch " + low + " of " + x1 + ", " + x2, x.register(32), taken ? 272 : 260);
        PocketCompiler back = stepped(word | 0xFE000080 | 0xC << 8, x1, x2);
        CHECK.same("back", back.register(32), taken ? 248 : 260);
        // To no multiple of 4: bad if it is taken.
        PocketCompiler odd = stepped(word | 9 << 8, x1, x2);
        CHECK.same("odd status", odd.count(5), taken ? 3 : 0);
        CHECK.same("odd PC", odd.register(32), taken ? 256 : 260);
    }

    private static void branches() {
        int least = Integer.MIN_VALUE;
        int[][] pairs = {{5, 5}, {5, 6}, {6, 5}, {-1, 0}, {0, -1}, {least, Integer.MAX_VALUE}};
        for (int[] p : pairs) {
            branch(0, p[0], p[1], p[0] == p[1]);
            branch(1, p[0], p[1], p[0] != p[1]);
            branch(4, p[0], p[1], p[0] < p[1]);
            branch(5, p[0], p[1], p[0] >= p[1]);
            branch(6, p[0], p[1], p[0] + least < p[1] + least);
            branch(7, p[0], p[1], p[0] + least >= p[1] + least);
        }
    }

    private static void jumps() {
        PocketCompiler x = stepped(0x00C001EF, 0, 0);
        CHECK.same("jal", x.register(32), 268);
        CHECK.same("its link", x.register(3), 260);
        PocketCompiler odd = stepped(0x002001EF, 0, 0);
        CHECK.same("jal to no multiple of 4", odd.count(5), 3);
        CHECK.same("its PC", odd.register(32), 256);
        CHECK.same("no link", odd.register(3), 0);
        PocketCompiler far = stepped(0x800001EF, 0, 0);
        CHECK.same("jal out of the memory", far.count(5), 0);
        CHECK.same("goes round", far.register(32), 256 - 1048576);
        CHECK.same("and is bad there", far.step(), 3);
        CHECK.same("PC stays", far.register(32), 256 - 1048576);
        // jalr x3, 5(x1): the lowest bit goes.
        PocketCompiler y = stepped(0x005081E7, 96, 0);
        CHECK.same("jalr", y.register(32), 100);
        CHECK.same("its link", y.register(3), 260);
        PocketCompiler z = stepped(0x005081E7, 97, 0);
        CHECK.same("jalr to no multiple of 4", z.count(5), 3);
        CHECK.same("no link", z.register(3), 0);
        // jalr x1, 4(x1): the place is read ahead of the link.
        PocketCompiler same = stepped(0x004080E7, 40, 0);
        CHECK.same("jalr x1 by x1", same.register(32), 44);
        CHECK.same("its link", same.register(1), 260);
        PocketCompiler round = stepped(0x008081E7, -8, 0);
        CHECK.same("jalr goes round", round.register(32), 0);
    }

    private static PocketCompiler loading(int low, int address) {
        PocketCompiler x = new PocketCompiler(256);
        x.poke(256, 0x00008183 | low << 12);
        x.poke(1020, 0x80FF7F01);
        x.set(1, address);
        x.set(3, 77);
        x.set(32, 256);
        x.step();
        return x;
    }

    private static void loads() {
        int[] bytes = {1, 0x7F, -1, -128};
        int[] unsigned = {1, 0x7F, 0xFF, 0x80};
        for (int k = 0; k < 4; k++) {
            CHECK.same("lb", loading(0, 1020 + k).register(3), bytes[k]);
            CHECK.same("lbu", loading(4, 1020 + k).register(3), unsigned[k]);
        }
        CHECK.same("lh", loading(1, 1020).register(3), 0x7F01);
        CHECK.same("lh", loading(1, 1022).register(3), (short) 0x80FF);
        CHECK.same("lhu", loading(5, 1022).register(3), 0x80FF);
        CHECK.same("lw", loading(2, 1020).register(3), 0x80FF7F01);
        int[][] bad = {{0, 1024}, {0, -1}, {4, 1024}, {1, 1021}, {1, 1023}, {1, 1024}, {5, 1021}, {5, -2}, {2, 1021},
            {2, 1022}, {2, 1023}, {2, 1024}, {2, -4}, {2, Integer.MIN_VALUE}};
        for (int[] b : bad) {
            PocketCompiler x = loading(b[0], b[1]);
            CHECK.same("load " + b[0] + " at " + b[1], x.count(5), 3);
            CHECK.same("no change", x.register(3), 77);
            CHECK.same("PC", x.register(32), 256);
            CHECK.same("it counts", x.count(6), 1);
        }
        // lw x3, -4(x1) with x1 0 and 4: addresses go round.
        PocketCompiler x = stepped(0xFFC0A183, 4, 0);
        CHECK.same("at 0", x.count(5), 0);
        PocketCompiler y = stepped(0xFFC0A183, 0, 0);
        CHECK.same("at -4", y.count(5), 3);
        // A load into x0 asks for its address all the same.
        PocketCompiler z = stepped(0x0000A003, 1024, 0);
        CHECK.same("into x0", z.count(5), 3);
    }

    private static PocketCompiler storing(int low, int address) {
        PocketCompiler x = new PocketCompiler(256);
        x.poke(256, 0x0020A023 & ~0x7000 | low << 12);
        x.poke(1020, 0x11223344);
        x.set(1, address);
        x.set(2, 0x8899AABB);
        x.set(32, 256);
        x.step();
        return x;
    }

    private static void stores() {
        int[] bytes = {0x112233BB, 0x1122BB44, 0x11BB3344, 0xBB223344};
        for (int k = 0; k < 4; k++) {
            CHECK.same("sb", storing(0, 1020 + k).word(1020), bytes[k]);
        }
        CHECK.same("sh", storing(1, 1020).word(1020), 0x1122AABB);
        CHECK.same("sh", storing(1, 1022).word(1020), 0xAABB3344);
        CHECK.same("sw", storing(2, 1020).word(1020), 0x8899AABB);
        CHECK.same("PC", storing(2, 1020).register(32), 260);
        int[][] bad = {{0, 1024}, {0, -1}, {1, 1021}, {1, 1023}, {1, 1024}, {2, 1021}, {2, 1022}, {2, 1023}, {2, 1024},
            {2, -4}};
        for (int[] b : bad) {
            PocketCompiler x = storing(b[0], b[1]);
            CHECK.same("store " + b[0] + " at " + b[1], x.count(5), 3);
            CHECK.same("no change", x.word(1020), 0x11223344);
            CHECK.same("PC", x.register(32), 256);
        }
        // What is stored can be done: sw over the next word.
        PocketCompiler x = new PocketCompiler(256);
        x.poke(0, 0x0020A223);
        x.set(1, 0);
        x.set(2, EBREAK);
        x.step();
        CHECK.same("a word that was stored", x.step(), 1);
    }

    private static void services() {
        for (int service : new int[] {0, 1, 2, 3, -1}) {
            PocketCompiler x = new PocketCompiler(256);
            x.poke(0, ECALL);
            x.give(42);
            x.set(17, service);
            x.set(10, 7);
            CHECK.same("ecall", x.step(), 0);
            CHECK.same("PC", x.register(32), 4);
            CHECK.same("A0", x.register(10), service == 2 ? 42 : 7);
            CHECK.same("PUT", x.count(7), service == 1 ? 1 : 0);
        }
    }

    private static void haltsAndIllegalWords() {
        PocketCompiler x = new PocketCompiler(256);
        x.poke(0, EBREAK);
        x.set(10, 9);
        x.set(17, 5);
        CHECK.same("no result yet", x.result(), 0);
        CHECK.same("no A7 yet", x.count(10), 0);
        CHECK.same("halted", x.step(), 1);
        CHECK.same("PC stays", x.register(32), 0);
        CHECK.same("result", x.result(), 9);
        CHECK.same("A7", x.count(10), 5);
        CHECK.same("steps", x.count(6), 1);
        CHECK.same("no more step", x.step(), 1);
        CHECK.same("no more run", x.run(10), 0);
        CHECK.same("steps", x.count(6), 1);
        x.poke(0, 0);
        CHECK.same("poke does not make it run", x.count(5), 1);
        x.set(32, 0);
        CHECK.same("RUNNING", x.count(5), 0);
        CHECK.same("no result", x.result(), 0);
        CHECK.same("illegal", x.step(), 2);
        CHECK.same("steps", x.count(6), 2);
        CHECK.same("no result", x.result(), 0);
        CHECK.same("no A7", x.count(10), 0);
        for (int word : new int[] {-1, 0x100F, 0x200073, 0x30200073, 0x02000033, 0x02001013, 0x3003, 0x3023, 0x2063,
            0x1067, 0x00001073, 0x1F}) {
            PocketCompiler y = stepped(word, 1, 2);
            CHECK.same("illegal", y.count(5), 2);
            CHECK.same("PC", y.register(32), 256);
        }
        PocketCompiler fence = stepped(0xFFFF8F8F, 1, 2);
        CHECK.same("fence", fence.register(32), 260);
        CHECK.same("does nothing", fence.register(31), 0);
    }

    private static void badProgramCounters() {
        for (int pc : new int[] {1, 2, 3, 1022, 1024, 1028, -4, -1, Integer.MIN_VALUE, Integer.MAX_VALUE}) {
            PocketCompiler x = new PocketCompiler(256);
            x.set(32, pc);
            CHECK.same("bad PC", x.step(), 3);
            CHECK.same("PC stays", x.register(32), pc);
            CHECK.same("it counts", x.count(6), 1);
        }
        PocketCompiler x = new PocketCompiler(256);
        x.poke(1020, 0x13);
        x.set(32, 1020);
        CHECK.same("the last word is done", x.step(), 0);
        CHECK.same("PC behind the memory", x.register(32), 1024);
        CHECK.same("bad", x.step(), 3);
    }

    private static void registers() {
        PocketCompiler x = new PocketCompiler(256);
        for (int k = 0; k <= 32; k++) {
            x.set(k, 1000 + k);
        }
        for (int k = 0; k <= 32; k++) {
            CHECK.same("register " + k, x.register(k), k == 0 ? 0 : 1000 + k);
        }
        for (int none : new int[] {-1, 33, Integer.MIN_VALUE, Integer.MAX_VALUE}) {
            CHECK.fails("register " + none, IndexOutOfBoundsException.class, () -> x.register(none));
            CHECK.fails("set " + none, IndexOutOfBoundsException.class, () -> {
                x.set(none, 1);
                return null;
            });
        }
        x.set(32, 1);
        CHECK.same("bad", x.step(), 3);
        CHECK.fails("set 33", IndexOutOfBoundsException.class, () -> {
            x.set(33, 1);
            return null;
        });
        CHECK.same("what throws changes nothing", x.count(5), 3);
        x.set(0, 5);
        CHECK.same("x0 too makes it run", x.count(5), 0);
        CHECK.same("x0 stays 0", x.register(0), 0);
    }

    private static void memory() {
        PocketCompiler x = new PocketCompiler(256);
        x.poke(0, 1);
        x.poke(1020, -2);
        CHECK.same("first", x.word(0), 1);
        CHECK.same("last", x.word(1020), -2);
        for (int odd : new int[] {1, 2, 3, -1, 1025, 1026, Integer.MAX_VALUE}) {
            CHECK.fails("word " + odd, IllegalArgumentException.class, () -> x.word(odd));
            CHECK.fails("poke " + odd, IllegalArgumentException.class, () -> {
                x.poke(odd, 1);
                return null;
            });
        }
        for (int none : new int[] {1024, 1028, -4, Integer.MIN_VALUE}) {
            CHECK.fails("word " + none, IndexOutOfBoundsException.class, () -> x.word(none));
            CHECK.fails("poke " + none, IndexOutOfBoundsException.class, () -> {
                x.poke(none, 1);
                return null;
            });
        }
    }

    private static void starts() {
        PocketCompiler x = Check.loaded(256, "int v; int none() { v = 1; put(v); return v; } int two(int a, int b) "
            + "{ return a - b; } int three(int a, int b, int c) { }");
        x.poke(800, 5);
        x.set(9, 9);
        CHECK.no("no such function", x.start(-1, 1, 2));
        CHECK.no("no such function", x.start(3, 1, 2));
        CHECK.no("three parameters", x.start(2, 1, 2));
        CHECK.same("nothing happens", x.word(800), 5);
        CHECK.same("nothing happens", x.register(9), 9);
        CHECK.yes("start", x.start(1, 11, 22));
        for (int k = 0; k < 200; k++) {
            CHECK.same("code, then 0s", x.word(4 * k), x.code(k));
        }
        CHECK.same("0 ahead of the arguments", x.word(1012), 0);
        CHECK.same("first argument", x.word(1020), 11);
        CHECK.same("second argument", x.word(1016), 22);
        for (int k = 0; k < 32; k++) {
            CHECK.same("register " + k, x.register(k), k == 5 ? 1020 : k == 2 ? 1016 : 0);
        }
        CHECK.same("PC", x.register(32), x.function(1, 1));
        x.run(50000);
        CHECK.same("result", x.result(), -11);
        CHECK.same("SP", x.register(2), 1016);
        CHECK.yes("again", x.start(0, 33, 44));
        CHECK.same("RUNNING", x.count(5), 0);
        CHECK.same("no steps", x.count(6), 0);
        CHECK.same("first argument", x.word(1020), 33);
        CHECK.same("second argument", x.word(1016), 44);
        CHECK.same("v", x.word(x.global(0, 1)), 0);
        x.run(50000);
        CHECK.same("v", x.word(x.global(0, 1)), 1);
        CHECK.same("PUT", x.count(7), 1);
        x.start(0, 0, 0);
        CHECK.same("nothing PUT", x.count(7), 0);
        CHECK.fails("nothing PUT", NoSuchElementException.class, () -> x.put(0));
        CHECK.same("v", x.word(x.global(0, 1)), 0);
    }

    private static void runs() {
        PocketCompiler x = Check.loaded(256, "int f() { for (;;) ; }");
        x.start(0, 0, 0);
        CHECK.same("none", x.run(0), 0);
        CHECK.same("one", x.run(1), 1);
        CHECK.same("most", x.run(50000), 50000);
        CHECK.same("steps", x.count(6), 50001);
        for (int n : new int[] {-1, 50001, Integer.MIN_VALUE, Integer.MAX_VALUE}) {
            CHECK.fails("run " + n, IllegalArgumentException.class, () -> x.run(n));
        }
        CHECK.same("steps", x.count(6), 50001);
        PocketCompiler y = Check.loaded(256, "int f() { return 7; }");
        y.start(0, 0, 0);
        CHECK.same("up to the end", y.run(50000), 15);
        CHECK.same("result", y.result(), 7);
        CHECK.same("nothing more", y.run(50000), 0);
        y.start(0, 0, 0);
        for (int k = 1; k < 15; k++) {
            CHECK.same("step", y.step(), 0);
            CHECK.same("steps", y.count(6), k);
        }
        CHECK.same("the last step", y.step(), 1);
        for (int n : new int[] {-1, 50001}) {
            CHECK.fails("run " + n + " halted", IllegalArgumentException.class, () -> y.run(n));
        }
    }

    private static void putsAreKept() {
        PocketCompiler x = Check.loaded(256, "int f(int n) { int i; for (i = 0; i < n; i += 1) put(i + 1000); }");
        x.start(0, 205, 0);
        x.run(50000);
        CHECK.same("PUT", x.count(7), 205);
        for (int k = 0; k < 200; k++) {
            CHECK.same("put " + k, x.put(k), 1000 + k);
        }
        for (int none : new int[] {-1, 200, 204, 205, Integer.MIN_VALUE, Integer.MAX_VALUE}) {
            CHECK.fails("put " + none, NoSuchElementException.class, () -> x.put(none));
        }
        x.start(0, 2, 0);
        x.run(50000);
        CHECK.same("put 1", x.put(1), 1001);
        CHECK.fails("put 2", NoSuchElementException.class, () -> x.put(2));
        PocketCompiler y = new PocketCompiler(256);
        y.poke(0, ECALL);
        y.set(17, 1);
        y.set(10, -5);
        y.step();
        CHECK.same("without a START", y.put(0), -5);
        CHECK.same("PUT", y.count(7), 1);
    }

    private static void counts() {
        PocketCompiler x = Check.loaded(300, "int a; int b[5]; int f() { return 1; } int g() { f(); }");
        x.give(1);
        x.feed(0, 0, 0, 0, 0);
        x.start(0, 0, 0);
        x.run(50000);
        int[] due = {20, 33, 2, 2, 156, 1, 15, 0, 1, 300, 0};
        for (int what = 0; what < due.length; what++) {
            CHECK.same("count " + what, x.count(what), due[what]);
        }
        for (int none : new int[] {-1, 11, Integer.MIN_VALUE, Integer.MAX_VALUE}) {
            CHECK.same("count " + none, x.count(none), PocketCompiler.NONE);
        }
    }
}
