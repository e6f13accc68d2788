import java.util.NoSuchElementException;

/** Terms 4, and promises 23 to 26: numbers that go round, the four reasons, turns and frames at their edges. */
public final class MeaningEdgesTest {
    private static final Check CHECK = new Check();
    private static final int NONE = PocketCompiler.NONE;
    private static final int LEAST = Integer.MIN_VALUE;
    private static final int MOST = Integer.MAX_VALUE;
    private static final int VALUE = 0;
    private static final int STACK = 1;
    private static final int ZERO = 2;
    private static final int INDEX = 3;
    private static final int CUT = 4;
    private static final int[] EDGES = {0, 1, 2, 3, 31, 32, 33, 63, 64, -1, -2, -3, -31, -32, -33, 46340, 46341, 65535, 65536, -65536,
        MOST, MOST - 1, LEAST, LEAST + 1, 0x55555555};

    public static void main(String[] args) {
        operators();
        unaries();
        truth();
        zero();
        index();
        indexIsAskedFirst();
        stackOfTheFirstCall();
        stackOfLaterCalls();
        stackIsAskedBehindTheArguments();
        bytesOfFrames();
        turnsOfCalls();
        turnsOfLoops();
        whereLoopsAreCut();
        mostTurns();
        intsWithoutE();
        ends();
        globalsAreZeroAtFirst();
        putsAndGets();
        arguments();
        told();
        left();
        thrown();
        lastOnes();
        fullMemory();
        CHECK.end();
    }

    private static long due(String sign, int a, int b) {
        switch (sign) {
            case "+": return (long) a + b;
            case "-": return (long) a - b;
            case "*": return (long) a * b;
            case "/": return (long) a / b;
            case "%": return (long) a % b;
            case "&": return a & b;
            case "|": return a | b;
            case "^": return a ^ b;
            case "<<": return (long) a << (b & 31);
            case ">>": return (long) a >> (b & 31);
            case "==": return a == b ? 1 : 0;
            case "!=": return a != b ? 1 : 0;
            case "<": return a < b ? 1 : 0;
            case "<=": return a <= b ? 1 : 0;
            case ">": return a > b ? 1 : 0;
            case ">=": return a >= b ? 1 : 0;
            case "&&": return a != 0 && b != 0 ? 1 : 0;
            default: return a != 0 || b != 0 ? 1 : 0;
        }
    }

    /** "Numbers are of 32 bits with sign and go round", "towards 0", "by the right side's lowest 5 bits": all the signs. */
    private static void operators() {
        String[] signs = {"+", "-", "*", "/", "%", "&", "|", "^", "<<", ">>", "==", "!=", "<", "<=", ">", ">=", "&&", "||"};
        for (String sign : signs) {
            pairs("int f(int a, int b) { return a " + sign + " b; }", sign);
            if (!sign.contains("&&") && !sign.contains("||") && !"== != < <= > >=".contains(sign)) {
                pairs("int f(int a, int b) { a " + sign + "= b; return a; }", sign);
                pairs("int v; int f(int a, int b) { v = a; return v " + sign + "= b; }", sign);
                pairs("int r[2]; int f(int a, int b) { r[1] = a; r[1] " + sign + "= b; return r[1]; }", sign);
            }
        }
    }

    private static void pairs(String text, String sign) {
        for (int a : EDGES) {
            PocketCompiler x = Check.loaded(256, text);
            for (int b : EDGES) {
                boolean isZero = b == 0 && (sign.equals("/") || sign.equals("%"));
                int due = isZero ? 0 : (int) due(sign, a, b);
                String what = a + " " + sign + " " + b + " by " + text;
                CHECK.same("work of " + what, x.work(0, a, b, 1), isZero ? ZERO : VALUE);
                CHECK.same("value of " + what, x.told(1), due);
                x.start(0, a, b);
                x.run(2000);
                CHECK.same("STATUS of " + what, x.count(5), 1);
                CHECK.same("A7 of " + what, x.count(10), isZero ? 2 : 0);
                CHECK.same("result of " + what, isZero ? 0 : x.result(), due);
            }
        }
    }

    private static void value(String text, int a, int due) {
        PocketCompiler x = Check.loaded(2048, text);
        int f = x.count(2) - 1;
        CHECK.same("work of " + text, x.work(f, a, 0, 100), VALUE);
        CHECK.same("value of " + text + " for " + a, x.told(1), due);
        x.start(f, a, 0);
        x.run(50000);
        CHECK.same("result of " + text + " for " + a, x.result(), due);
        CHECK.same("A7", x.count(10), 0);
    }

    private static void unaries() {
        for (int a : EDGES) {
            value("int f(int a) { return -a; }", a, (int) -(long) a);
            value("int f(int a) { return ~a; }", a, -1 - a);
            value("int f(int a) { return !a; }", a, a == 0 ? 1 : 0);
            value("int f(int a) { return !!a; }", a, a == 0 ? 0 : 1);
            value("int f(int a) { return - -a; }", a, a);
        }
    }

    /** "what is not 0 is true", wherever something is asked; "work what is needed". */
    private static void truth() {
        for (int a : new int[] {0, 1, 2, -1, 256, 0x10000, LEAST, MOST, LEAST + 1}) {
            int yes = a != 0 ? 1 : 0;
            value("int f(int a) { if (a) return 5; return 6; }", a, 6 - yes);
            value("int f(int a) { if (a) return 5; else return 6; }", a, 6 - yes);
            value("int f(int a) { return a ? 5 : 6; }", a, 6 - yes);
            value("int f(int a) { return a && 7; }", a, yes);
            value("int f(int a) { return 7 && a; }", a, yes);
            value("int f(int a) { return a || 0; }", a, yes);
            value("int f(int a) { return 0 || a; }", a, yes);
            value("int f(int a) { return a || 7; }", a, 1);
            value("int f(int a) { return a && 0; }", a, 0);
            value("int f(int a) { while (a) return 5; return 6; }", a, 6 - yes);
            value("int f(int a) { for (; a;) return 5; return 6; }", a, 6 - yes);
            value("int f(int a) { int n; do n += 1; while (n < 2 && a); return n; }", a, 1 + yes);
            value("int f(int a) { int n; do { n += 1; if (n == 2) break; } while (a); return n; }", a, 1 + yes);
            // What is not needed would divide by 0.
            value("int f(int a) { return a && 7 / a == 7 / a; }", a, yes);
            value("int f(int a) { return !a || 7 / a == 7 / a; }", a, 1);
            value("int f(int a) { return a ? 7 / a == 7 / a : 9; }", a, a != 0 ? 1 : 9);
        }
    }

    private static void stops(String text, int a, int b, int reason) {
        PocketCompiler x = Check.loaded(1024, text);
        int f = x.count(2) - 1;
        CHECK.same("work of " + text + " for " + a + ", " + b, x.work(f, a, b, 100), reason);
        CHECK.same("told 0", x.told(0), reason);
        if (reason != VALUE) {
            CHECK.same("no value of " + text, x.told(1), 0);
        }
        x.start(f, a, b);
        x.run(50000);
        CHECK.same("A7 of " + text + " for " + a + ", " + b, x.count(10), reason);
        CHECK.same("put by both", x.count(7), x.told(4));
        for (int g = 0; g < x.count(3); g++) {
            for (int k = 0; k < x.global(g, 0); k++) {
                CHECK.same("left by both", x.left(g, k), x.word(x.global(g, 1) + 4 * k));
            }
        }
    }

    /** "(the least number by -1: itself, rest 0), by 0 the reason is ZERO". */
    private static void zero() {
        for (String sign : new String[] {"/", "%"}) {
            for (int a : new int[] {0, 1, -1, LEAST, MOST}) {
                stops("int f(int a, int b) { return a " + sign + " b; }", a, 0, ZERO);
                stops("int f(int a, int b) { return a " + sign + " b; }", a, 1, VALUE);
                stops("int f(int a, int b) { return a " + sign + " b; }", a, -1, VALUE);
                stops("int v; int f(int a, int b) { v = a; v " + sign + "= b; }", a, 0, ZERO);
                stops("int v; int f(int a, int b) { v = a; v " + sign + "= b; }", a, 1, VALUE);
                stops("int r[2]; int f(int a, int b) { r[1] = a; r[1] " + sign + "= b; }", a, 0, ZERO);
                stops("int f(int a, int b) { a " + sign + "= b; }", a, 0, ZERO);
            }
        }
        value("int f(int a) { return a / -1; }", LEAST, LEAST);
        value("int f(int a) { return a % -1; }", LEAST, 0);
        value("int f(int a) { return a / -1; }", LEAST + 1, MOST);
        value("int f(int a) { return a / 2; }", -7, -3);
        value("int f(int a) { return a % 2; }", -7, -1);
        value("int f(int a) { return a % -2; }", 7, 1);
        // Both sides are worked ahead of it; what comes behind is not, and what is stored stays as it was.
        stops("int v; int w; int f(int a, int b) { w = (v = 5) / (v -= 5); }", 0, 0, ZERO);
        stops("int v; int t(int n) { put(n); return n; } int f(int a, int b) { v = 3; v /= t(0); v = 4; }", 0, 0, ZERO);
        stops("int t(int n) { put(n); return n; } int f(int a, int b) { t(1) % t(0); put(2); }", 0, 0, ZERO);
    }

    /** "A row's place that it hasn't: INDEX". */
    private static void index() {
        for (int size : new int[] {1, 2, 3}) {
            String head = "int u; int r[" + size + "]; int w; int f(int a, int b) { ";
            for (int a : new int[] {0, size - 1, size, size + 1, -1, -2, LEAST, MOST, LEAST + 1, 0x40000000, 0x40000001}) {
                int due = a >= 0 && a < size ? VALUE : INDEX;
                stops(head + "return r[a]; }", a, 9, due);
                stops(head + "r[a] = b; u = 1; }", a, 9, due);
                stops(head + "r[a] += b; w = 1; }", a, 9, due);
                stops(head + "return r[r[a]]; }", a, 9, due);
            }
        }
        value("int r[3]; int f(int a) { r[0] = 5; r[1] = 6; r[2] = 7; return r[a]; }", 0, 5);
        value("int r[3]; int f(int a) { r[0] = 5; r[1] = 6; r[2] = 7; return r[a]; }", 2, 7);
        value("int r[1000]; int f(int a) { r[999] = 5; return r[a]; }", 999, 5);
        PocketCompiler x = Check.loaded(2048, "int r[1000]; int f(int a) { return r[a]; }");
        CHECK.same("behind a row of 1000", x.work(0, 1000, 0, 1), INDEX);
        CHECK.same("its last one", x.work(0, 999, 0, 1), VALUE);
    }

    private static void puts(String body, int reason, int... due) {
        PocketCompiler x = Check.loaded(1024,
            "int v; int r[3]; int t(int n) { put(n); return n; } int f(int p, int q) { " + body + " }");
        CHECK.same(body, x.work(1, 0, 0, 100), reason);
        CHECK.same("how many of " + body, x.told(4), due.length);
        x.start(1, 0, 0);
        x.run(50000);
        CHECK.same("A7 of " + body, x.count(10), reason);
        CHECK.same("how many of " + body, x.count(7), due.length);
        for (int k = 0; k < due.length && k < x.told(4) && k < x.count(7); k++) {
            CHECK.same("worked of " + body, x.worked(k), due[k]);
            CHECK.same("put of " + body, x.put(k), due[k]);
        }
    }

    /** "(asked behind the E in [ ], ahead of all else)", "the place, then E", "the place, its number, E". */
    private static void indexIsAskedFirst() {
        puts("r[t(3)] = t(1);", INDEX, 3);
        puts("r[t(2)] = t(1);", VALUE, 2, 1);
        puts("r[t(3)] += t(1);", INDEX, 3);
        puts("r[t(3)] /= t(0);", INDEX, 3);
        puts("r[t(2)] /= t(0);", ZERO, 2, 0);
        puts("r[t(1) / t(0)] = t(5);", ZERO, 1, 0);
        puts("t(7) + r[t(-1)] + t(8);", INDEX, 7, -1);
        puts("r[r[t(3)]] = t(1);", INDEX, 3);
        puts("r[t(0)] = r[t(3)] = t(1);", INDEX, 0, 3);
        puts("t(r[t(3)]);", INDEX, 3);
        puts("r[1] = 5; r[1] += r[1] = 7; put(r[1]);", VALUE, 12);
        puts("r[1] = 5; r[1] = (r[1] = 7) + r[1]; put(r[1]);", VALUE, 14);
        puts("v = 5; v += v = 7; put(v);", VALUE, 12);
        puts("p = 5; p -= p = 7; put(p);", VALUE, -2);
        puts("p = 1; r[p] = p = 2; put(r[1]); put(r[2]);", VALUE, 2, 0);
        puts("p = 1; r[p] += p = 2; put(r[1]); put(r[2]);", VALUE, 2, 0);
    }

    /** "where all FRAMES under way, and this one, and the 8 bytes of the arguments, are more than the MEMORY less LIMIT". */
    private static void stackOfTheFirstCall() {
        // A function of so many slots: 16 words, two for each int; 64 bytes or more are left behind LIMIT.
        for (int slots : new int[] {11, 12, 13, 14, 15, 20}) {
            String body = "int f() { " + "int a; {".repeat(slots) + "}".repeat(slots) + " return 7; }";
            int frame = 8 + 4 * slots;
            int words = 18 + 2 * slots;
            int fits = (1024 - frame - 8) / 4 - words;
            for (int row = fits - 1; row <= fits + 1; row++) {
                PocketCompiler x = new PocketCompiler(256);
                int load = Check.load(x, "int r[" + row + "]; " + body);
                if (load == 0) {
                    CHECK.same("FRAME", x.function(0, 2), frame);
                    CHECK.same("words", x.count(1), words);
                    boolean isFine = frame + 8 <= 1024 - x.count(4);
                    CHECK.same("the row that fits", isFine ? 1 : 0, row <= fits ? 1 : 0);
                    CHECK.same("work", x.work(0, 0, 0, 1), isFine ? VALUE : STACK);
                    CHECK.same("TURNS", x.told(2), isFine ? 1 : 0);
                    CHECK.same("bytes", x.told(3), isFine ? frame : 0);
                    CHECK.same("STACK ahead of the TURN", x.work(0, 0, 0, 0), isFine ? CUT : STACK);
                    x.start(0, 0, 0);
                    x.run(1000);
                    CHECK.same("A7", x.count(10), isFine ? 0 : 1);
                    CHECK.same("result", x.result(), isFine ? 7 : 0);
                } else {
                    CHECK.same("ROOM", load, 7);
                    CHECK.yes("less than 64 bytes", 4 * (words + row) + 64 > 1024);
                }
            }
        }
    }

    private static void stackOfLaterCalls() {
        String text = "int v; int f(int n) { v += 1; if (n == 0) return 0; return f(n - 1) + 1; }";
        for (int words : new int[] {256, 257, 258, 259, 260, 261, 262, 263}) {
            PocketCompiler x = Check.loaded(words, text);
            int frame = x.function(0, 2);
            int calls = (4 * words - x.count(4) - 8) / frame;
            CHECK.same("as many as fit", x.work(0, calls - 1, 0, 20000), VALUE);
            CHECK.same("value", x.told(1), calls - 1);
            CHECK.same("TURNS", x.told(2), calls);
            CHECK.same("bytes", x.told(3), calls * frame);
            CHECK.same("v", x.left(0, 0), calls);
            CHECK.same("one more", x.work(0, calls, 0, 20000), STACK);
            CHECK.same("no value", x.told(1), 0);
            CHECK.same("TURNS", x.told(2), calls);
            CHECK.same("bytes", x.told(3), calls * frame);
            CHECK.same("v", x.left(0, 0), calls);
            // "(behind STACK ..)": the call that has neither room nor a turn has no room.
            CHECK.same("STACK first", x.work(0, calls, 0, calls), STACK);
            CHECK.same("CUT", x.work(0, calls, 0, calls - 1), CUT);
            CHECK.same("just enough", x.work(0, calls - 1, 0, calls), VALUE);
            x.start(0, calls - 1, 0);
            x.run(50000);
            CHECK.same("A7", x.count(10), 0);
            CHECK.same("result", x.result(), calls - 1);
            x.start(0, calls, 0);
            x.run(50000);
            CHECK.same("A7", x.count(10), 1);
            CHECK.same("v", x.word(x.global(0, 1)), calls);
        }
        // Frames of different sizes, under way at once and one behind the other.
        String two = "int big(int n) { int a; int b; int c; int d; int e; int g; return n ? small(n - 1) : 0; } "
            + "int small(int n) { return n ? big(n - 1) : 0; } int both(int n) { big(n); return small(n); }";
        PocketCompiler y = Check.loaded(256, two);
        int room = 1024 - y.count(4) - 8;
        for (int n = 0; n < 40; n++) {
            int bigs = (n + 2) / 2;
            int smalls = (n + 1) / 2;
            int bytes = bigs * y.function(0, 2) + smalls * y.function(1, 2);
            CHECK.same("big " + n, y.work(0, n, 0, 100), bytes <= room ? VALUE : STACK);
            y.start(0, n, 0);
            y.run(50000);
            CHECK.same("A7 of big " + n, y.count(10), bytes <= room ? 0 : 1);
        }
        PocketCompiler z = Check.loaded(256, two);
        for (int n = 0; n < 40; n++) {
            int bigs = (n + 2) / 2 * z.function(0, 2) + (n + 1) / 2 * z.function(1, 2) + z.function(2, 2);
            CHECK.same("both " + n, z.work(2, n, 0, 200), bigs <= room ? VALUE : STACK);
        }
    }

    private static void stackIsAskedBehindTheArguments() {
        PocketCompiler x = Check.loaded(256, "int f(int n) { return f(t(n)); } int t(int n) { put(n); return n + 1; }");
        int frame = x.function(0, 2);
        int least = x.function(1, 2);
        int room = 1024 - x.count(4) - 8;
        CHECK.same("work", x.work(0, 0, 0, 20000), STACK);
        // t has no more room than f: the last f is refused, or its t already.
        int calls = room / frame;
        boolean isLast = calls * frame + least <= room;
        CHECK.same("put", x.told(4), isLast ? calls : calls - 1);
        x.start(0, 0, 0);
        x.run(50000);
        CHECK.same("A7", x.count(10), 1);
        CHECK.same("put", x.count(7), x.told(4));
    }

    /** Told 3: "the most bytes of FRAMES that were under way": not the last, not the sum, not those refused. */
    private static void bytesOfFrames() {
        PocketCompiler x = Check.loaded(1024, "int a() { int p; int q; int r; return 1; } int b() { return 2; } "
            + "int c(int n) { a(); b(); return n ? c(n - 1) : 0; } int d() { return a() + b(); } int e() { return b(); }");
        int a = x.function(0, 2);
        int b = x.function(1, 2);
        int c = x.function(2, 2);
        CHECK.same("FRAMES", a, 20);
        CHECK.same("FRAMES", b, 8);
        for (int f = 0; f < 5; f++) {
            x.work(f, 0, 0, 100);
            int[] due = {a, b, c + a, x.function(3, 2) + a, x.function(4, 2) + b};
            CHECK.same("bytes of " + f, x.told(3), due[f]);
        }
        for (int n = 0; n < 5; n++) {
            x.work(2, n, 0, 100);
            CHECK.same("bytes of c", x.told(3), (n + 1) * c + a);
        }
        // Up to where it ends, whatever the reason.
        PocketCompiler y = Check.loaded(1024, "int r[1]; int z(int n) { if (n) z(n - 1); else r[1]; } "
            + "int o(int n) { if (n) o(n - 1); else 1 / n; } int l(int n) { if (n) l(n - 1); for (;;) ; }");
        int[] reasons = {INDEX, ZERO, CUT};
        for (int f = 0; f < 3; f++) {
            CHECK.same("reason", y.work(f, 3, 0, 50), reasons[f]);
            CHECK.same("bytes", y.told(3), 4 * y.function(f, 2));
        }
    }

    /** "TURNS: 1 for each call (.. the first one's, too)", "When one more would be above those told: CUT". */
    private static void turnsOfCalls() {
        PocketCompiler x = Check.loaded(256, "int v; int f() { v += 1; return 7; } int g() { f(); f(); return f(); } "
            + "int h() { v = 5; return g() + g(); }");
        int[] turns = {1, 4, 9};
        for (int f = 0; f < 3; f++) {
            for (int n = 0; n <= turns[f] + 1; n++) {
                boolean isFine = n >= turns[f];
                CHECK.same("work of " + f + " with " + n, x.work(f, 0, 0, n), isFine ? VALUE : CUT);
                CHECK.same("told 0", x.told(0), isFine ? VALUE : CUT);
                CHECK.same("TURNS", x.told(2), Math.min(n, turns[f]));
                CHECK.same("value", x.told(1), isFine ? new int[] {7, 7, 14}[f] : 0);
            }
        }
        CHECK.same("the first call is cut", x.work(2, 0, 0, 0), CUT);
        CHECK.same("nothing was done", x.left(0, 0), 0);
        CHECK.same("the second call is cut", x.work(2, 0, 0, 1), CUT);
        CHECK.same("something was done", x.left(0, 0), 5);
    }

    private static void turnsOf(String body, int due) {
        PocketCompiler x = Check.loaded(1024, "int v; int f() { " + body + " return 7; }");
        CHECK.same(body, x.work(0, 0, 0, 20000), VALUE);
        CHECK.same("TURNS of " + body, x.told(2), 1 + due);
        CHECK.same("just enough for " + body, x.work(0, 0, 0, 1 + due), VALUE);
        CHECK.same("value", x.told(1), 7);
        CHECK.same("one more for " + body, x.work(0, 0, 0, 2 + due), VALUE);
        CHECK.same("TURNS of " + body, x.told(2), 1 + due);
        CHECK.same("one less for " + body, x.work(0, 0, 0, due), CUT);
        CHECK.same("TURNS", x.told(2), due);
        CHECK.same("no value", x.told(1), 0);
    }

    /** "1 for each round of a loop (ahead of the E of while, of the second E of for .., each time; ahead of do's stat)". */
    private static void turnsOfLoops() {
        turnsOf("", 0);
        turnsOf("if (1) ; else ; 1 ? 2 : 3; { }", 0);
        turnsOf("if (0) while (1) ;", 0);
        for (int n = 0; n < 4; n++) {
            turnsOf("while (v < " + n + ") v += 1;", n + 1);
            turnsOf("for (; v < " + n + ";) v += 1;", n + 1);
            turnsOf("for (v = 0; v < " + n + "; v += 1) ;", n + 1);
            turnsOf("for (;;) { if (v == " + n + ") break; v += 1; }", n + 1);
            turnsOf("for (;; v += 1) if (v == " + n + ") break;", n + 1);
            turnsOf("do v += 1; while (v < " + n + ");", Math.max(n, 1));
            turnsOf("do { if (v >= " + n + ") break; v += 1; } while (1);", n + 1);
            turnsOf("while (1) { v += 1; if (v > " + n + ") break; continue; }", n + 1);
            turnsOf("do { v += 1; continue; } while (v < " + n + ");", Math.max(n, 1));
            turnsOf("for (; v < " + n + "; v += 1) continue;", n + 1);
            turnsOf("while (v < " + n + ") { v += 1; while (0) ; }", n + 1 + n);
            turnsOf("while (v < " + n + ") { v += 1; do ; while (0); }", n + 1 + n);
        }
        turnsOf("while (1) break;", 1);
        turnsOf("do break; while (1);", 1);
        turnsOf("do ; while (0);", 1);
        turnsOf("while (1) return 7;", 1);
        turnsOf("for (;;) return 7;", 1);
    }

    /** Where a loop is cut: ahead of its E, or of do's stat, but behind all that is ahead of them. */
    private static void whereLoopsAreCut() {
        String[] loops = {"while (v += 10) v += 1;", "for (v += 5; v += 10; v += 100) v += 1;", "for (v += 5; ; v += 100) v += 1;",
            "do v += 1; while (v += 10);"};
        int[][] due = {{0, 11, 22}, {5, 116, 227}, {5, 106, 207}, {0, 11, 22}};
        for (int k = 0; k < loops.length; k++) {
            PocketCompiler x = Check.loaded(256, "int v; int f() { " + loops[k] + " }");
            for (int n = 1; n <= 3; n++) {
                CHECK.same(loops[k], x.work(0, 0, 0, n), CUT);
                CHECK.same("v of " + loops[k] + " with " + n, x.left(0, 0), due[k][n - 1]);
                CHECK.same("TURNS", x.told(2), n);
            }
        }
    }

    /** Promise 23: "n is not 0 .. 20,000". */
    private static void mostTurns() {
        PocketCompiler x = Check.loaded(256, "int v; int f(int n) { while (v < n) v += 1; return v; }");
        CHECK.same("20,000 turns are enough", x.work(0, 19998, 0, 20000), VALUE);
        CHECK.same("TURNS", x.told(2), 20000);
        CHECK.same("value", x.told(1), 19998);
        CHECK.same("20,000 turns are not", x.work(0, 19999, 0, 20000), CUT);
        CHECK.same("TURNS", x.told(2), 20000);
        CHECK.same("v", x.left(0, 0), 19999);
        CHECK.fails("20,001 turns", IllegalArgumentException.class, () -> x.work(0, 1, 0, 20001));
        CHECK.fails("-1 turns", IllegalArgumentException.class, () -> x.work(0, 1, 0, -1));
        CHECK.same("what throws changes nothing", x.told(2), 20000);
        CHECK.same("no turns", x.work(0, 1, 0, 0), CUT);
        CHECK.same("TURNS", x.told(2), 0);
    }

    /** "An int without E is 0 each time that it is come to." */
    private static void intsWithoutE() {
        puts("p = 0; while (p < 3) { int a; put(a); a = 7; p += 1; }", VALUE, 0, 0, 0);
        puts("p = 0; do { int a; put(a); a = 7; p += 1; } while (p < 2);", VALUE, 0, 0);
        puts("{ int a = 9; } int b; put(b);", VALUE, 0);
        puts("1 + (2 + (3 + 4)); int b; int c; int d; put(b); put(c); put(d);", VALUE, 0, 0, 0);
        puts("for (p = 0; p < 2; p += 1) { int a = 3; a += p; put(a); }", VALUE, 3, 4);
        value("int g(int a) { int b; b += a; return b; } int f(int a) { return g(a) + g(a); }", 4, 8);
    }

    /** "A function ends by return, or with 0 at its end." */
    private static void ends() {
        value("int f() { }", 0, 0);
        value("int f() { 5; }", 0, 0);
        value("int f() { return; }", 0, 0);
        value("int f() { 5; return; 6; }", 0, 0);
        value("int f() { return 5; return 6; }", 0, 5);
        value("int f(int a) { if (a) return 5; }", 0, 0);
        value("int f(int a) { if (a) return 5; }", 1, 5);
        value("int f(int a) { while (1) { while (1) { return a; } } }", 3, 3);
        value("int g() { 9; } int f() { return g() + 1; }", 0, 1);
        value("int g() { return 9; } int f() { g(); }", 0, 0);
    }

    /** "Globals are 0 at first": each time. */
    private static void globalsAreZeroAtFirst() {
        PocketCompiler x = Check.loaded(256, "int v; int r[3]; int f(int a) { v += a; r[2] += v; return v + r[2]; } int g() { }");
        for (int a : new int[] {5, 7, -1}) {
            CHECK.same("work", x.work(0, a, 0, 1), VALUE);
            CHECK.same("value", x.told(1), 2 * a);
            CHECK.same("v", x.left(0, 0), a);
            CHECK.same("r[2]", x.left(1, 2), a);
        }
        CHECK.same("work", x.work(1, 0, 0, 1), VALUE);
        CHECK.same("v", x.left(0, 0), 0);
        CHECK.same("r[2]", x.left(1, 2), 0);
    }

    /** Promises 24, 25: "how many were got (also behind the last)", "the first 200 are kept". */
    private static void putsAndGets() {
        String text = "int f(int n) { int i; for (i = 0; i < n; i += 1) put(get() + 5); }";
        for (int given : new int[] {0, 1, 64}) {
            for (int n : new int[] {0, 1, 2, 63, 64, 65, 199, 200, 201, 230}) {
                PocketCompiler x = Check.loaded(256, text);
                for (int k = 0; k < given; k++) {
                    x.give(1000 + k);
                }
                CHECK.same("work", x.work(0, n, 0, 1000), VALUE);
                CHECK.same("put", x.told(4), n);
                CHECK.same("got", x.told(5), n);
                for (int k = 0; k < 203; k++) {
                    int at = k;
                    if (k < n && k < 200) {
                        CHECK.same("worked " + k, x.worked(k), k < given ? 1005 + k : 5);
                    } else {
                        CHECK.fails("worked " + k + " of " + n, NoSuchElementException.class, () -> x.worked(at));
                    }
                }
                CHECK.same("GIVEN", x.count(8), given);
            }
        }
        PocketCompiler x = Check.loaded(256, "int f(int n) { put(1); put(2); return get(); } int g() { return 1; }");
        x.give(9);
        x.work(0, 0, 0, 1);
        for (int none : new int[] {-1, 2, 3, LEAST, MOST}) {
            CHECK.fails("worked " + none, NoSuchElementException.class, () -> x.worked(none));
        }
        CHECK.same("from the first number on", x.told(1), 9);
        x.work(0, 0, 0, 1);
        CHECK.same("each time", x.told(1), 9);
        x.work(1, 0, 0, 1);
        CHECK.same("none put", x.told(4), 0);
        CHECK.same("none got", x.told(5), 0);
        CHECK.fails("worked 0", NoSuchElementException.class, () -> x.worked(0));
        // A processor that has used a number has used none of those here, and the other way round.
        x.start(0, 0, 0);
        x.run(1000);
        CHECK.same("the processor's", x.result(), 9);
        x.work(0, 0, 0, 1);
        CHECK.same("the meaning's", x.told(1), 9);
    }

    /** "(as many as it has parameters count)". */
    private static void arguments() {
        PocketCompiler x = Check.loaded(256, "int a() { int p; int q; return p + q; } int b(int p) { int q; return p * 10 + q; } "
            + "int c(int p, int q) { return p * 10 + q; } int d(int p, int q, int r) { return 1; }");
        int[] due = {0, 70, 78};
        for (int f = 0; f < 3; f++) {
            CHECK.same("work", x.work(f, 7, 8, 1), VALUE);
            CHECK.same("value of " + f, x.told(1), due[f]);
        }
        CHECK.fails("three", IllegalArgumentException.class, () -> x.work(3, 7, 8, 1));
        CHECK.same("nothing has changed", x.told(1), 78);
        CHECK.fails("no such function", NoSuchElementException.class, () -> x.work(4, 7, 8, 1));
        CHECK.fails("no such function", NoSuchElementException.class, () -> x.work(-1, 7, 8, 1));
        for (int a : new int[] {LEAST, MOST, -1}) {
            x.work(1, a, 5, 1);
            CHECK.same("value", x.told(1), a * 10);
        }
    }

    /** Promise 24: "NONE without one, or for another what". */
    private static void told() {
        PocketCompiler x = Check.loaded(256, "int f() { put(get()); return 7; } int g() { return 1 / 0; }");
        for (int what = -1; what <= 6; what++) {
            CHECK.same("nothing yet", x.told(what), NONE);
        }
        x.work(0, 0, 0, 5);
        int[] due = {NONE, 0, 7, 1, x.function(0, 2), 1, 1, NONE};
        for (int what = -1; what <= 6; what++) {
            CHECK.same("told " + what, x.told(what), due[what + 1]);
        }
        CHECK.same("told", x.told(LEAST), NONE);
        CHECK.same("told", x.told(MOST), NONE);
        x.work(1, 0, 0, 5);
        int[] stopped = {NONE, 2, 0, 1, x.function(1, 2), 0, 0, NONE};
        for (int what = -1; what <= 6; what++) {
            CHECK.same("told " + what, x.told(what), stopped[what + 1]);
        }
        CHECK.same("a fault", Check.load(x, "int"), 2);
        CHECK.same("it is told still", x.told(0), 2);
        CHECK.same("no fault", Check.load(x, "int f() { }"), 0);
        for (int what = -1; what <= 6; what++) {
            CHECK.same("nothing any more", x.told(what), NONE);
        }
        CHECK.same("work", x.work(0, 0, 0, 0), CUT);
        CHECK.same("told", x.told(0), CUT);
    }

    /** Promise 26: "there was none (of what is loaded), no such global, number". */
    private static void left() {
        PocketCompiler x = Check.loaded(1024, "int a; int r[3]; int b[1]; int s[200]; int f() { a = 1; r[0] = 2; r[2] = 3; b[0] = 4; "
            + "s[0] = 5; s[199] = 6; }");
        CHECK.fails("no work yet", NoSuchElementException.class, () -> x.left(0, 0));
        x.work(0, 0, 0, 1);
        int[][] due = {{0, 0, 1}, {1, 0, 2}, {1, 1, 0}, {1, 2, 3}, {2, 0, 4}, {3, 0, 5}, {3, 198, 0}, {3, 199, 6}};
        for (int[] d : due) {
            CHECK.same("left " + d[0] + " " + d[1], x.left(d[0], d[1]), d[2]);
        }
        int[][] none = {{-1, 0}, {4, 0}, {LEAST, 0}, {MOST, 0}, {0, -1}, {0, 1}, {1, -1}, {1, 3}, {2, 1}, {3, 200}, {3, -1}, {3, MOST},
            {3, LEAST}};
        for (int[] n : none) {
            CHECK.fails("left " + n[0] + " " + n[1], NoSuchElementException.class, () -> x.left(n[0], n[1]));
        }
        CHECK.same("a fault", Check.load(x, "int c; int"), 2);
        CHECK.same("left still", x.left(0, 0), 1);
        CHECK.same("no fault", Check.load(x, "int c; int f() { c = 8; }"), 0);
        CHECK.fails("none of what is loaded", NoSuchElementException.class, () -> x.left(0, 0));
        x.work(0, 0, 0, 1);
        CHECK.same("left", x.left(0, 0), 8);
        CHECK.fails("no such global any more", NoSuchElementException.class, () -> x.left(1, 0));
    }

    /** "of several exceptions the first one listed is thrown", and it changes nothing. */
    private static void thrown() {
        PocketCompiler x = Check.loaded(256, "int v; int f(int a) { v = a; put(a); return get(); } int g(int a, int b, int c) { }");
        x.give(6);
        x.work(0, 3, 0, 5);
        for (int f : new int[] {-1, 2, LEAST, MOST}) {
            for (int n : new int[] {-1, 0, 20000, 20001}) {
                CHECK.fails("function " + f, NoSuchElementException.class, () -> x.work(f, 0, 0, n));
            }
        }
        for (int n : new int[] {-1, 0, 20000, 20001}) {
            CHECK.fails("three parameters", IllegalArgumentException.class, () -> x.work(1, 0, 0, n));
        }
        for (int n : new int[] {-1, 20001, LEAST, MOST}) {
            CHECK.fails("turns " + n, IllegalArgumentException.class, () -> x.work(0, 0, 0, n));
        }
        int[] due = {0, 6, 1, x.function(0, 2), 1, 1};
        for (int what = 0; what <= 5; what++) {
            CHECK.same("told " + what, x.told(what), due[what]);
        }
        CHECK.same("worked", x.worked(0), 3);
        CHECK.same("left", x.left(0, 0), 3);
        CHECK.same("n 0 is none of these", x.work(0, 0, 0, 0), CUT);
        CHECK.same("n 20,000 is none of these", x.work(0, 0, 0, 20000), VALUE);
    }

    /** The 40th function and the 60th global are like others; there is none behind them. */
    private static void lastOnes() {
        StringBuilder text = new StringBuilder();
        for (int k = 0; k < 60; k++) {
            text.append("int g").append(k).append(k == 58 ? "[3];" : ";");
        }
        for (int k = 0; k < 40; k++) {
            text.append("int f").append(k).append("(int a){").append(k == 39 ? "g59=a;g58[2]=a+1;g0=a+2;return f0(a);}" : "return 5;}");
        }
        PocketCompiler x = Check.loaded(1024, text.toString());
        CHECK.same("work", x.work(39, 8, 0, 2), VALUE);
        CHECK.same("value", x.told(1), 5);
        CHECK.same("the last global", x.left(59, 0), 8);
        CHECK.same("the row ahead of it", x.left(58, 2), 9);
        CHECK.same("the first global", x.left(0, 0), 10);
        CHECK.yes("start", x.start(39, 8, 0));
        x.run(1000);
        CHECK.same("result", x.result(), 5);
        CHECK.same("the last global", x.word(x.count(4) - 4), 8);
        CHECK.fails("no 41st function", NoSuchElementException.class, () -> x.work(40, 8, 0, 2));
        CHECK.no("no 41st function", x.start(40, 8, 0));
        CHECK.fails("no 61st global", NoSuchElementException.class, () -> x.left(60, 0));
    }

    /** As many globals as ROOM lets be: each number is its own, up to the last one. */
    private static void fullMemory() {
        String body = "int f(int a) { r[a] = a + 1; s[2] = 7; v = 9; w = r[a] * 2; return r[a] + s[2] + v + w; }";
        for (int words : new int[] {256, 1024}) {
            int code = Check.loaded(1024, "int v; int r[9]; int s[3]; int w; " + body).count(1);
            int size = words - 16 - 5 - code;
            PocketCompiler x = Check.loaded(words, "int v; int r[" + size + "]; int s[3]; int w; " + body);
            CHECK.same("LIMIT", x.count(4), 4 * words - 64);
            for (int a : new int[] {0, 1, size / 2, size - 2, size - 1}) {
                int due = 3 * (a + 1) + 16;
                CHECK.same("work", x.work(0, a, 0, 1), VALUE);
                CHECK.same("value", x.told(1), due);
                int[][] left = {{0, 0, 9}, {1, 0, a == 0 ? 1 : 0}, {1, a, a + 1}, {1, size - 1, a == size - 1 ? size : 0}, {2, 0, 0},
                    {2, 2, 7}, {3, 0, 2 * a + 2}};
                x.start(0, a, 0);
                x.run(5000);
                CHECK.same("result", x.result(), due);
                for (int[] l : left) {
                    CHECK.same("left " + l[0] + " " + l[1], x.left(l[0], l[1]), l[2]);
                    CHECK.same("word " + l[0] + " " + l[1], x.word(x.global(l[0], 1) + 4 * l[1]), l[2]);
                }
            }
            CHECK.same("behind the row", x.work(0, size, 0, 1), INDEX);
        }
    }
}
