import java.util.NoSuchElementException;

/** Promises 23 to 26: work, told, worked, left. */
public final class WorkTest {
    private static final Check CHECK = new Check();
    private static final int NONE = PocketCompiler.NONE;
    private static final int LEAST = Integer.MIN_VALUE;
    private static final int VALUE = 0;
    private static final int STACK = 1;
    private static final int ZERO = 2;
    private static final int INDEX = 3;
    private static final int CUT = 4;

    public static void main(String[] args) {
        operators();
        order();
        stats();
        turns();
        stack();
        stops();
        arguments();
        putsAndGets();
        leaves();
        wrongCalls();
        longText();
        CHECK.end();
    }

    private static final String HEAD = "int v; int r[3]; int t(int n) { put(n); return n; } int f(int p, int q) { ";

    /** The value of an E of p and q; the code's value is the same. */
    private static void value(String e, int p, int q, int due) {
        PocketCompiler x = Check.loaded(1024, HEAD + "return " + e + "; }");
        CHECK.same("work of " + e, x.work(1, p, q, 100), VALUE);
        CHECK.same(e + " of " + p + ", " + q, x.told(1), due);
        x.start(1, p, q);
        x.run(50000);
        CHECK.same("run of " + e, x.result(), due);
        CHECK.same("A7", x.count(10), 0);
    }

    private static void operators() {
        int[][] pairs = {{7, 3}, {-7, 3}, {7, -3}, {-7, -3}, {LEAST, -1}, {LEAST, 1}, {Integer.MAX_VALUE, 2}, {0, 5},
            {5, 5}, {123456789, -987654321}, {LEAST, LEAST}, {1, LEAST}, {-1, 33}};
        for (int[] pair : pairs) {
            int p = pair[0];
            int q = pair[1];
            value("p + q", p, q, p + q);
            value("p - q", p, q, p - q);
            value("p * q", p, q, p * q);
            value("p / q", p, q, p / q);
            value("p % q", p, q, p % q);
            value("p << q", p, q, p << q);
            value("p >> q", p, q, p >> q);
            value("p & q", p, q, p & q);
            value("p | q", p, q, p | q);
            value("p ^ q", p, q, p ^ q);
            value("p == q", p, q, p == q ? 1 : 0);
            value("p != q", p, q, p != q ? 1 : 0);
            value("p < q", p, q, p < q ? 1 : 0);
            value("p <= q", p, q, p <= q ? 1 : 0);
            value("p > q", p, q, p > q ? 1 : 0);
            value("p >= q", p, q, p >= q ? 1 : 0);
            value("-p", p, q, -p);
            value("~p", p, q, ~p);
            value("!p", p, q, p == 0 ? 1 : 0);
            value("p && q", p, q, p != 0 && q != 0 ? 1 : 0);
            value("p || q", p, q, p != 0 || q != 0 ? 1 : 0);
            value("p ? q : 9", p, q, p != 0 ? q : 9);
        }
        value("p && q", 5, 0, 0);
        value("p || q", 0, 0, 0);
        value("!p", 0, 0, 1);
        value("1 + 2 * 3 - 4 % 3", 0, 0, 6);
        value("1 | 6 & 3 ^ 8", 0, 0, 11);
        value("1 < 2 == 2 > 1", 0, 0, 1);
        value("1 << 2 + 1 < 9", 0, 0, 1);
        value("0 || 1 && 0", 0, 0, 0);
        value("p ? 1 : q ? 2 : 3", 0, 5, 2);
        value("20 - 3 - 4", 0, 0, 13);
        value("100 / 10 / 5", 0, 0, 2);
        value("-p * -q", 3, 4, 12);
        value("- - p", 3, 4, 3);
        value("'a' + 0x10 + 0xffffffff", 0, 0, 112);
        for (String set : new String[] {"+", "-", "*", "/", "%", "&", "|", "^", "<<", ">>"}) {
            PocketCompiler x = Check.loaded(1024, HEAD + "return p " + set + " q; }");
            x.work(1, -77, 5, 10);
            int due = x.told(1);
            value("p " + set + "= q", -77, 5, due);
            value("(p " + set + "= q) - p + p", -77, 5, due);
            value("(v = p) + (v " + set + "= q) - p + 0 * v", -77, 5, due);
            value("(r[2] = p) + (r[2] " + set + "= q) - p + 0 * r[2]", -77, 5, due);
        }
    }

    /** What is put while an E is worked; the code puts the same. */
    private static void puts(String body, int outcome, int... due) {
        PocketCompiler x = Check.loaded(1024, HEAD + body + " }");
        CHECK.same(body, x.work(1, 0, 0, 100), outcome);
        CHECK.same("how many of " + body, x.told(4), due.length);
        x.start(1, 0, 0);
        x.run(50000);
        CHECK.same("how many of " + body, x.count(7), due.length);
        for (int k = 0; k < due.length && k < x.told(4) && k < x.count(7); k++) {
            CHECK.same("worked of " + body, x.worked(k), due[k]);
            CHECK.same("put of " + body, x.put(k), due[k]);
        }
    }

    private static void order() {
        puts("t(1) + t(2) * t(3);", VALUE, 1, 2, 3);
        puts("t(0) && t(1); t(2) && t(3);", VALUE, 0, 2, 3);
        puts("t(0) || t(1); t(2) || t(3);", VALUE, 0, 1, 2);
        puts("t(0) ? t(1) : t(2); t(3) ? t(4) : t(5);", VALUE, 0, 2, 3, 4);
        puts("r[t(1)] = t(2);", VALUE, 1, 2);
        puts("r[t(3)] = t(2);", INDEX, 3);
        puts("r[t(0) - 1] += t(2);", INDEX, 0);
        puts("t(1) / t(0); t(2);", ZERO, 1, 0);
        puts("t(1) % t(0);", ZERO, 1, 0);
        puts("v = 4; v /= t(0);", ZERO, 0);
        puts("v = 5; v += (v = 7); put(v); v = v + (v = 1); put(v);", VALUE, 12, 13);
        puts("r[1] = 5; r[1] += r[1] = 7; put(r[1]);", VALUE, 12);
        puts("p = 5; p -= p = 7; put(p);", VALUE, -2);
        puts("int i = 1; r[i] = i = 2; put(r[1]); put(r[2]); put(i);", VALUE, 2, 0, 2);
        puts("put(v = p = 3); put(v); put(p);", VALUE, 3, 3, 3);
    }

    private static void stats() {
        puts("int i; while (i < 3) { put(i); i += 1; }", VALUE, 0, 1, 2);
        puts("int i; do { put(i); i += 1; } while (i < 3);", VALUE, 0, 1, 2);
        puts("do put(9); while (0);", VALUE, 9);
        puts("int i; for (i = 5; i; i -= 2) { if (i == 1) break; put(i); }", VALUE, 5, 3);
        puts("int i; for (i = 0; i < 4; i += 1) { if (i == 1) continue; put(i); }", VALUE, 0, 2, 3);
        puts("int i; while (i < 4) { i += 1; if (i == 2) continue; put(i); }", VALUE, 1, 3, 4);
        puts("int i; do { i += 1; if (i == 2) continue; if (i == 4) break; put(i); } while (i < 9);", VALUE, 1, 3);
        puts("int i; for (;;) { if (i > 1) return 5; put(i); i += 1; } put(9);", VALUE, 0, 1);
        puts("int i; for (i = 0; i < 3; i += 1) { int a; put(a); a = 7; }", VALUE, 0, 0, 0);
        puts("int i; while (i < 2) { while (1) { break; } put(i); i += 1; }", VALUE, 0, 1);
        puts("if (0) put(1); else if (1) put(2); else put(3);", VALUE, 2);
        puts("if (1) if (0) put(1); else put(2);", VALUE, 2);
        puts("int a = 1; { int a = 2; put(a); { int a; put(a); } } put(a);", VALUE, 2, 0, 1);
        value("t(p) + 0 * t(q)", 3, 4, 3);
        PocketCompiler x = Check.loaded(256, "int f(int a) { if (a) return; if (a == 0) a; }");
        CHECK.same("return without E", x.work(0, 5, 0, 1), VALUE);
        CHECK.same("is 0", x.told(1), 0);
        CHECK.same("the end", x.work(0, 0, 0, 1), VALUE);
        CHECK.same("is 0", x.told(1), 0);
    }

    /** How many turns a body wants beside that of the call. */
    private static void turnsOf(String body, int due) {
        PocketCompiler x = Check.loaded(1024, HEAD + body + " }");
        CHECK.same(body, x.work(1, 0, 0, 20000), VALUE);
        CHECK.same("turns of " + body, x.told(2), 1 + due);
        CHECK.same("just enough for " + body, x.work(1, 0, 0, 1 + due), VALUE);
        CHECK.same("one less for " + body, x.work(1, 0, 0, due), CUT);
        CHECK.same("turns", x.told(2), due);
        CHECK.same("no value", x.told(1), 0);
    }

    private static void turns() {
        turnsOf("", 0);
        turnsOf("while (0) ;", 1);
        turnsOf("while (v < 3) v += 1;", 4);
        turnsOf("while (1) break;", 1);
        turnsOf("do ; while (0);", 1);
        turnsOf("do v += 1; while (v < 3);", 3);
        turnsOf("for (; 0;) ;", 1);
        turnsOf("for (v = 0; v < 3; v += 1) ;", 4);
        turnsOf("for (;;) break;", 1);
        turnsOf("for (;;) { v += 1; if (v == 4) break; continue; }", 4);
        turnsOf("t(t(1)); t(2);", 3);
        turnsOf("if (v) while (1) ;", 0);
        PocketCompiler x = Check.loaded(256, "int v; int f() { v = 1; while (v += 1) put(v); }");
        CHECK.same("cut ahead of the E", x.work(0, 0, 0, 1), CUT);
        CHECK.same("v", x.left(0, 0), 1);
        CHECK.same("cut ahead of the second E", x.work(0, 0, 0, 2), CUT);
        CHECK.same("v", x.left(0, 0), 2);
        CHECK.same("cut at once", x.work(0, 0, 0, 0), CUT);
        CHECK.same("v", x.left(0, 0), 0);
        CHECK.same("turns", x.told(2), 0);
        CHECK.same("most turns", x.work(0, 0, 0, 20000), CUT);
        CHECK.same("turns", x.told(2), 20000);
    }

    private static void stack() {
        PocketCompiler x = Check.loaded(256,
            "int f(int n) { if (n == 0) return 0; return f(n - 1) + 1; } int big() { f(f(0)); }");
        int frame = x.function(0, 2);
        int room = 1024 - x.count(4) - 8;
        int calls = room / frame;
        CHECK.same("as many as fit", x.work(0, calls - 1, 0, 20000), VALUE);
        CHECK.same("value", x.told(1), calls - 1);
        CHECK.same("bytes", x.told(3), calls * frame);
        CHECK.same("one more", x.work(0, calls, 0, 20000), STACK);
        CHECK.same("bytes", x.told(3), calls * frame);
        CHECK.same("turns", x.told(2), calls);
        CHECK.same("STACK is asked ahead of the turn", x.work(0, calls, 0, calls), STACK);
        CHECK.same("CUT", x.work(0, calls, 0, calls - 1), CUT);
        x.start(0, calls - 1, 0);
        x.run(50000);
        CHECK.same("the code's value", x.result(), calls - 1);
        x.start(0, calls, 0);
        x.run(50000);
        CHECK.same("the code's reason", x.count(10), 1);
        CHECK.same("frames end", x.work(1, 0, 0, 10), VALUE);
        CHECK.same("bytes", x.told(3), x.function(1, 2) + frame);
        // Behind LIMIT are 64 bytes: room for a FRAME of 8 and the arguments, but not for one of 64.
        PocketCompiler y = Check.loaded(256, "int r[224]; int f() { }");
        CHECK.same("room for the least", y.work(0, 0, 0, 1), VALUE);
        PocketCompiler z = Check.loaded(256, "int r[194]; int f(int a, int b) {" + "int x; int y; int z; {".repeat(4)
            + "}".repeat(4) + " return a; }");
        CHECK.same("LIMIT", z.count(4), 4 * (2 + 13 + 24 + 2 + 5 + 194));
        CHECK.same("FRAME", z.function(0, 2), 64);
        CHECK.same("no room for the first call", z.work(0, 0, 0, 0), STACK);
        CHECK.same("no bytes", z.told(3), 0);
        CHECK.same("no turn", z.told(2), 0);
    }

    private static void stops() {
        PocketCompiler x = Check.loaded(1024, "int v; int r[3]; int f(int a, int b) { v = 1; r[a] = 5; v = 2; "
            + "v = v / b; r[2] = 1; return 9; }");
        CHECK.same("value", x.work(0, 1, 2, 5), VALUE);
        CHECK.same("told", x.told(0), VALUE);
        CHECK.same("value", x.told(1), 9);
        CHECK.same("bytes", x.told(3), x.function(0, 2));
        CHECK.same("ZERO", x.work(0, 1, 0, 5), ZERO);
        CHECK.same("told", x.told(0), ZERO);
        CHECK.same("no value", x.told(1), 0);
        CHECK.same("v", x.left(0, 0), 2);
        CHECK.same("r[1]", x.left(1, 1), 5);
        CHECK.same("r[2]", x.left(1, 2), 0);
        for (int wrong : new int[] {3, -1, LEAST, Integer.MAX_VALUE}) {
            CHECK.same("INDEX", x.work(0, wrong, 0, 5), INDEX);
            CHECK.same("v", x.left(0, 0), 1);
        }
        CHECK.same("told", x.told(0), INDEX);
        CHECK.same("turns", x.told(2), 1);
    }

    private static void arguments() {
        PocketCompiler x = Check.loaded(1024, "int none() { return 1; } int one(int a) { a += 1; return a; } "
            + "int two(int a, int b) { return a * 1000 + b; } int three(int a, int b, int c) { return c; } "
            + "int calls(int a) { return two(three(1, 2, a), one(a)) + eight(1, 2, 3, 4, 5, 6, 7, a); } "
            + "int eight(int a, int b, int c, int d, int e, int f, int g, int h) { return g * 10000000 + h; }");
        x.work(0, 5, 6, 1);
        CHECK.same("none", x.told(1), 1);
        x.work(1, 5, 6, 1);
        CHECK.same("one", x.told(1), 6);
        x.work(2, 5, 6, 1);
        CHECK.same("two", x.told(1), 5006);
        x.work(4, 8, 0, 9);
        CHECK.same("calls", x.told(1), 70008017);
        CHECK.fails("three", IllegalArgumentException.class, () -> x.work(3, 1, 2, 3));
    }

    private static void putsAndGets() {
        PocketCompiler x = Check.loaded(256, "int f(int n) { int i; for (i = 0; i < n; i += 1) put(get() + i); }");
        x.give(1000);
        x.give(2000);
        CHECK.same("work", x.work(0, 205, 0, 20000), VALUE);
        CHECK.same("puts", x.told(4), 205);
        CHECK.same("gets", x.told(5), 205);
        for (int k = 0; k < 200; k++) {
            CHECK.same("worked " + k, x.worked(k), k + (k == 0 ? 1000 : k == 1 ? 2000 : 0));
        }
        for (int none : new int[] {-1, 200, 204, 205, LEAST, Integer.MAX_VALUE}) {
            CHECK.fails("worked " + none, NoSuchElementException.class, () -> x.worked(none));
        }
        CHECK.same("work", x.work(0, 2, 0, 20000), VALUE);
        CHECK.same("gets anew", x.worked(1), 2001);
        CHECK.fails("worked 2", NoSuchElementException.class, () -> x.worked(2));
        CHECK.same("the processor put nothing", x.count(7), 0);
        CHECK.same("what is given stays", x.count(8), 2);
    }

    private static void leaves() {
        PocketCompiler x = Check.loaded(1024, "int a; int r[3]; int b[1]; int f(int n) { a += n; r[2] += 2 * n; "
            + "b[0] = 9; }");
        CHECK.fails("no work yet", NoSuchElementException.class, () -> x.left(0, 0));
        CHECK.same("nothing told yet", x.told(0), NONE);
        x.work(0, 5, 0, 1);
        x.work(0, 7, 0, 1);
        CHECK.same("a", x.left(0, 0), 7);
        CHECK.same("r[0]", x.left(1, 0), 0);
        CHECK.same("r[2]", x.left(1, 2), 14);
        CHECK.same("b[0]", x.left(2, 0), 9);
        int[][] none = {{0, 1}, {0, -1}, {1, 3}, {1, -1}, {2, 1}, {3, 0}, {-1, 0}, {LEAST, 0}, {0, Integer.MAX_VALUE}};
        for (int[] n : none) {
            CHECK.fails("left", NoSuchElementException.class, () -> x.left(n[0], n[1]));
        }
        CHECK.same("the memory stays", x.word(x.global(0, 1)), 0);
    }

    private static void wrongCalls() {
        PocketCompiler x = Check.loaded(256, "int f(int a) { put(a); return a; } int g(int a, int b, int c) { }");
        x.work(0, 3, 0, 5);
        for (int f : new int[] {-1, 2, LEAST, Integer.MAX_VALUE}) {
            CHECK.fails("function " + f, NoSuchElementException.class, () -> x.work(f, 0, 0, 5));
            CHECK.fails("it comes first", NoSuchElementException.class, () -> x.work(f, 0, 0, -1));
        }
        CHECK.fails("three parameters", IllegalArgumentException.class, () -> x.work(1, 0, 0, 5));
        for (int n : new int[] {-1, 20001, LEAST, Integer.MAX_VALUE}) {
            CHECK.fails("turns " + n, IllegalArgumentException.class, () -> x.work(0, 0, 0, n));
        }
        CHECK.same("what throws changes nothing", x.told(1), 3);
        CHECK.same("what throws changes nothing", x.worked(0), 3);
        for (int what : new int[] {-1, 6, LEAST, Integer.MAX_VALUE}) {
            CHECK.same("told " + what, x.told(what), NONE);
        }
        PocketCompiler y = new PocketCompiler(256);
        CHECK.fails("no function", NoSuchElementException.class, () -> y.work(0, 0, 0, 1));
    }

    /** As many deeds as the tokens of one text can bring. */
    private static void longText() {
        PocketCompiler x = Check.loaded(4096, "int f(int p) { " + ("p+=".repeat(39) + "1;").repeat(18) + " return p; }");
        CHECK.same("work", x.work(0, 5, 0, 1), VALUE);
        int due = 5;
        for (int k = 0; k < 18; k++) {
            due = 39 * due + 1;
        }
        CHECK.same("value", x.told(1), due);
        x.start(0, 5, 0);
        x.run(50000);
        CHECK.same("result", x.result(), due);
    }
}
