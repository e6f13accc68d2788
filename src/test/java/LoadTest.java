/** Promises 4, 5, 7, 8: load, fault, function, global. */
public final class LoadTest {
    private static final int NONE = PocketCompiler.NONE;

    public static void main(String[] args) {
        Check check = new Check();
        emptyTexts(check);
        whatStaysAndWhatGoes(check);
        facts(check);
        nothingIsLeftOfOtherTexts(check);
        aTextOfTheMostBytes(check);
        check.end();
    }

    private static void emptyTexts(Check check) {
        for (String text : new String[] {"", " \t\r\n", "// a note", "// a note\n", "//\n//", "// \u00ff $ '\n "}) {
            PocketCompiler x = Check.loaded(256, text);
            check.same("words", x.count(1), 2);
            check.same("functions", x.count(2), 0);
            check.same("globals", x.count(3), 0);
            check.same("LIMIT", x.count(4), 8);
            check.same("no fault", x.fault(0), 0);
            check.same("no place", x.fault(1), NONE);
        }
    }

    private static void whatStaysAndWhatGoes(Check check) {
        PocketCompiler x = Check.loaded(256, "int v; int f(int a) { v = a; put(a); return a + 1; }");
        x.start(0, 5, 0);
        x.run(100);
        x.work(0, 5, 0, 10);
        int words = x.count(1);

        check.same("a fault", Check.load(x, "int f() { return 1 +; }"), 2);
        check.same("its number", x.fault(0), 2);
        check.same("its place", x.fault(1), 20);
        check.same("no other what", x.fault(2), NONE);
        check.same("no other what", x.fault(-1), NONE);
        check.same("the tape is empty", x.count(0), 0);
        check.same("words stay", x.count(1), words);
        check.same("function stays", x.function(0, 0), 1);
        check.same("work is told", x.told(1), 6);
        check.same("work put", x.worked(0), 5);
        check.same("work left", x.left(0, 0), 5);
        check.same("and can go on", x.work(0, 7, 0, 10), 0);

        check.same("another text", Check.load(x, "int w; int g() {}"), 0);
        check.same("no fault", x.fault(0), 0);
        check.same("no place", x.fault(1), NONE);
        check.same("no other what", x.fault(2), NONE);
        check.same("the tape is empty", x.count(0), 0);
        for (int what = 0; what <= 5; what++) {
            check.same("nothing told", x.told(what), NONE);
        }
        check.fails("nothing worked", java.util.NoSuchElementException.class, () -> x.worked(0));
        check.fails("nothing left", java.util.NoSuchElementException.class, () -> x.left(0, 0));
        check.same("the processor stays", x.count(5), 1);
        check.same("its result", x.result(), 6);
        check.same("its numbers put", x.put(0), 5);
        check.same("its memory", x.word(4 * (words - 1)), 0x00008067);
        check.same("an empty tape is a text", x.load(), 0);
        check.same("without functions", x.count(2), 0);
    }

    private static void facts(Check check) {
        PocketCompiler x = Check.loaded(1024,
            "int v; int r[7]; int f() {} int one[1]; int g(int a, int b, int c) { int d; } int w;");
        int[][] functions = {{0, 8, 8, 21}, {3, 64, 24, 44}};
        int[][] globals = {{1, 152, 0, 4}, {7, 156, 1, 11}, {1, 184, 1, 32}, {1, 188, 0, 82}};
        for (int what = 0; what <= 3; what++) {
            for (int f = 0; f < 2; f++) {
                check.same("function " + f + " " + what, x.function(f, what), functions[f][what]);
            }
            for (int g = 0; g < 4; g++) {
                check.same("global " + g + " " + what, x.global(g, what), globals[g][what]);
            }
        }
        check.same("LIMIT", x.count(4), 192);
        for (int none : new int[] {-1, 4, Integer.MIN_VALUE, Integer.MAX_VALUE}) {
            check.same("function 0 " + none, x.function(0, none), NONE);
            check.same("global 0 " + none, x.global(0, none), NONE);
            check.same("function " + none, x.function(none, 0), NONE);
            check.same("global " + none, x.global(none, 0), NONE);
        }
        check.same("function 2", x.function(2, 0), NONE);
        check.same("words of code", x.count(1), 38);
        check.same("behind the code", x.code(38), 0);
        check.same("far behind", x.code(Integer.MAX_VALUE), 0);
        check.fails("ahead of it", IndexOutOfBoundsException.class, () -> x.code(-1));
        check.fails("far ahead", IndexOutOfBoundsException.class, () -> x.code(Integer.MIN_VALUE));
    }

    /** What a text becomes does not depend on the texts ahead of it, be they with a fault or without. */
    private static void nothingIsLeftOfOtherTexts(Check check) {
        String text = "int v; int f(int a) { int b = a || 1 && a; while (b) { b = b * (a + f(b - 1)); break; } }";
        PocketCompiler fresh = Check.loaded(1024, text);
        String due = Check.listing(fresh, 0, fresh.count(1));
        String[] others = {"int f(int a) { { while (1) { return a + (1 * (2 - f(3, [", "int g; int g;",
            "int f(int a) { int b; if (1) { int c; a = b += c ? 1 : ", "int r[1000]; int s[1000];",
            "int f() { g(1); } int h(int a) { }", "int q; int g() { return g() / q * g(); }",
            "int f() {" + "0||0;".repeat(350) + "}", "int f() {" + "0&&0;".repeat(350) + "} $",
            "int f() {" + "0||0;".repeat(350) + "}", "int f() {" + "0&&0;".repeat(350) + "} ,",
            "int f() {" + "f();".repeat(350) + "}", "int f() {" + "f();".repeat(350) + "} )",
            "int f() {" + "1|1^1&1==1<1<<1+1*(".repeat(38), "int f() {" + "1|1^1&1==1<1<<1+1*(".repeat(38),
            "int f(int a) { { int b; { int c; { int d; $"};
        for (String other : others) {
            PocketCompiler x = new PocketCompiler(1024);
            Check.load(x, other);
            Check.load(x, other);
            check.same("load", Check.load(x, text), 0);
            check.same("code", Check.listing(x, 0, x.count(1)), due);
            check.same("FRAME", x.function(0, 2), fresh.function(0, 2));
            check.same("functions", x.count(2), 1);
            check.same("globals", x.count(3), 1);
            check.same("work", x.work(0, 1, 0, 10), 0);
            check.same("turns", x.told(2), 4);
        }
        PocketCompiler y = new PocketCompiler(1024);
        check.same("a fault", Check.load(y, others[others.length - 1]), 1);
        check.same("told again", Check.load(y, "int f(int a, int a) { }"), 3);
        check.same("with MUL", Check.load(y, text), 0);
        check.same("neither MUL nor DIV", Check.load(y, "int f() { return 1; }"), 0);
        check.same("words", y.count(1), 18);
    }

    private static void aTextOfTheMostBytes(Check check) {
        String text = "int f() { return 7; }" + " ".repeat(3978);
        PocketCompiler x = Check.loaded(256, text + "\n");
        check.same("work", x.work(0, 0, 0, 1), 0);
        check.same("value", x.told(1), 7);
        PocketCompiler y = new PocketCompiler(256);
        check.same("a fault at the last byte", Check.load(y, text + "}"), 2);
        check.same("its place", y.fault(1), 3999);
        check.same("a fault behind it", Check.load(y, text.substring(0, 20) + " ".repeat(3980)), 2);
        check.same("its place", y.fault(1), 4000);
    }
}
